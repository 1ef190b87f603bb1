theorem c_253 : mm_cd 253 = k_J5_append_3fe6f := rfl
def F_J5_append_3fe6f_B45 (S : Nat → Nat) (h : mm_S) (x0 : Nat) (x1 : Int32) : Option (Nat × mm_S) :=
  (fx_is h x0 7).bind fun _ =>
  (F_J5_isLatin1_aae02 S h x0).bind fun v11 =>
  if v11 = 0 then
    (fx_gR h x0 7 0).bind fun v14 =>
    (fx_gI h x0 7 3).bind fun v16 =>
    (fx_pV h x0 7 3 (.int (v16 + (ki 1)))).bind fun h18 =>
    none
  else
    none
def F_J5_append_3fe6f (S : Nat → Nat) (h : mm_S) (x0 : Nat) (x1 : Int32) : Option (Nat × mm_S) :=
  (fx_gI h x0 7 3).bind fun v1 =>
  (fx_is h x0 7).bind fun _ =>
  (F_J5_ensureCapacityInternal_d00df h x0 (v1 + (ki 1))).bind fun v4 =>
  (fx_is v4 x0 7).bind fun _ =>
  (F_J5_isLatin1_aae02 S v4 x0).bind fun v7 =>
  if v7 = 0 then
    F_J5_append_3fe6f_B45 S v4 x0 x1
  else
    (F_J1_canEncode_fc78d v4 x1).bind fun v20 =>
    if v20 = 0 then
      F_J5_append_3fe6f_B45 S v4 x0 x1
    else
      (fx_gR v4 x0 7 0).bind fun v23 =>
      (fx_gI v4 x0 7 3).bind fun v25 =>
      (fx_pV v4 x0 7 3 (.int (v25 + (ki 1)))).bind fun h27 =>
      (fx_sB h27 v23 v25 x1.toInt8.toInt32).bind fun h29 =>
      some (x0, h29)
theorem r_J5_append_3fe6f_B45 {X : mm_Cl} (hX : mm_mono X) {S : Nat → Nat} (hS : mm_XS S X) {d c k : Nat} {Q : mm_Re → Prop} {h : mm_S} {x0 : Nat} {x1 : Int32} {o : (Nat × mm_S)} (hF : F_J5_append_3fe6f_B45 S h x0 x1 = some o) (hQ : Q (.inl (some (.ref o.1)), o.2)) : mm_Ex (mm_Run X (d + 3)) 253 Q (45, [], [(0, .ref x0), (1, .int x1)], h) c k := by
  unfold F_J5_append_3fe6f_B45 at hF
  refine go_adv hX c_253 1 (F2 := (46, [.ref x0], [(0, .ref x0), (1, .int x1)], h)) rfl ?_
  obtain ⟨_, e10, hF⟩ := mm_bind hF
  obtain ⟨v11, e12, hF⟩ := mm_bind hF
  refine go_cV hX (As := []) (rv := some (.int v11)) (h2 := h) (ci := 7) c_253 rfl (Nat.le_of_ble_eq_true rfl) rfl rfl e10 (by decide) (Nat.le_of_ble_eq_true rfl) (fun Q2 hQ2 => r_J5_isLatin1_aae02 hX hS (d := (d + 2)) e12 hQ2) ?_
  rcases mm_ite hF with ⟨hc13, hF⟩ | ⟨hc13, hF⟩
  · refine go_zt hX 56 c_253 rfl rfl hc13 ?_
    refine go_adv hX c_253 1 (F2 := (57, [.ref x0], [(0, .ref x0), (1, .int x1)], h)) rfl ?_
    obtain ⟨v14, e15, hF⟩ := mm_bind hF
    refine go_gR hX c_253 rfl e15 ?_
    refine go_adv hX c_253 1 (F2 := (61, [.ref x0, .ref v14], [(0, .ref x0), (1, .int x1)], h)) rfl ?_
    refine go_p hX c_253 rfl rfl rfl ?_
    obtain ⟨v16, e17, hF⟩ := mm_bind hF
    refine go_gI hX c_253 rfl e17 ?_
    refine go_p hX c_253 rfl rfl ⟨rfl, rfl⟩ ?_
    refine go_adv hX c_253 2 (F2 := (68, [.int (v16 + (ki 1)), .ref x0, .int v16, .ref v14], [(0, .ref x0), (1, .int x1)], h)) rfl ?_
    obtain ⟨h18, e19, hF⟩ := mm_bind hF
    refine go_pV hX c_253 rfl e19 ?_
    refine go_adv hX c_253 1 (F2 := (72, [.int x1, .int v16, .ref v14], [(0, .ref x0), (1, .int x1)], h18)) rfl ?_
    cases hF
  · refine go_zf hX c_253 rfl (by decide) hc13 ?_
    refine go_adv hX c_253 1 (F2 := (53, [.ref x0], [(0, .ref x0), (1, .int x1)], h)) rfl ?_
    cases hF
theorem r_J5_append_3fe6f {X : mm_Cl} (hX : mm_mono X) {S : Nat → Nat} (hS : mm_XS S X) {d c k : Nat} {Q : mm_Re → Prop} {h : mm_S} {x0 : Nat} {x1 : Int32} {o : (Nat × mm_S)} (hF : F_J5_append_3fe6f S h x0 x1 = some o) (hQ : Q (.inl (some (.ref o.1)), o.2)) : mm_Run X (d + 4) 253 c k [.ref x0, .int x1] h Q := by
  unfold F_J5_append_3fe6f at hF
  refine mm_Run_in (by decide) (by decide) (Nat.le_of_ble_eq_true rfl) ?_
  show mm_Ex (mm_Run X (d + 3)) 253 Q (0, [], [(0, .ref x0), (1, .int x1)], h) c k
  refine go_adv hX c_253 2 (F2 := (2, [.ref x0, .ref x0], [(0, .ref x0), (1, .int x1)], h)) rfl ?_
  obtain ⟨v1, e2, hF⟩ := mm_bind hF
  refine go_gI hX c_253 rfl e2 ?_
  refine go_adv hX c_253 2 (F2 := (7, [.int (v1 + (ki 1)), .ref x0], [(0, .ref x0), (1, .int x1)], h)) rfl ?_
  obtain ⟨_, e3, hF⟩ := mm_bind hF
  obtain ⟨v4, e5, hF⟩ := mm_bind hF
  refine go_cV hX (As := [.int (v1 + (ki 1))]) (rv := none) (h2 := v4) (ci := 7) c_253 rfl (Nat.le_of_ble_eq_true rfl) rfl rfl e3 (by decide) (Nat.le_of_ble_eq_true rfl) (fun Q2 hQ2 => r_J5_ensureCapacityInternal_d00df hX (d := d) e5 hQ2) ?_
  refine go_adv hX c_253 1 (F2 := (11, [.ref x0], [(0, .ref x0), (1, .int x1)], v4)) rfl ?_
  obtain ⟨_, e6, hF⟩ := mm_bind hF
  obtain ⟨v7, e8, hF⟩ := mm_bind hF
  refine go_cV hX (As := []) (rv := some (.int v7)) (h2 := v4) (ci := 7) c_253 rfl (Nat.le_of_ble_eq_true rfl) rfl rfl e6 (by decide) (Nat.le_of_ble_eq_true rfl) (fun Q2 hQ2 => r_J5_isLatin1_aae02 hX hS (d := (d + 2)) e8 hQ2) ?_
  rcases mm_ite hF with ⟨hc9, hF⟩ | ⟨hc9, hF⟩
  · refine go_zt hX 45 c_253 rfl rfl hc9 ?_
    refine go_ls [(0, .ref x0), (1, .int x1)] ⟨rfl, ⟨rfl, trivial⟩⟩ ?_
    exact r_J5_append_3fe6f_B45 hX hS hF hQ
  · refine go_zf hX c_253 rfl (by decide) hc9 ?_
    refine go_adv hX c_253 1 (F2 := (18, [.int x1], [(0, .ref x0), (1, .int x1)], v4)) rfl ?_
    obtain ⟨v20, e21, hF⟩ := mm_bind hF
    refine go_cS hX (As := [.int x1]) (rv := some (.int v20)) (h2 := v4) c_253 rfl (by decide) (Nat.le_of_ble_eq_true rfl) rfl rfl (Nat.le_of_ble_eq_true rfl) (fun Q2 hQ2 => r_J1_canEncode_fc78d hX (d := (d + 2)) e21 hQ2) ?_
    rcases mm_ite hF with ⟨hc22, hF⟩ | ⟨hc22, hF⟩
    · refine go_zt hX 45 c_253 rfl rfl hc22 ?_
      refine go_ls [(0, .ref x0), (1, .int x1)] ⟨rfl, ⟨rfl, trivial⟩⟩ ?_
      exact r_J5_append_3fe6f_B45 hX hS hF hQ
    · refine go_zf hX c_253 rfl (by decide) hc22 ?_
      refine go_adv hX c_253 1 (F2 := (25, [.ref x0], [(0, .ref x0), (1, .int x1)], v4)) rfl ?_
      obtain ⟨v23, e24, hF⟩ := mm_bind hF
      refine go_gR hX c_253 rfl e24 ?_
      refine go_adv hX c_253 1 (F2 := (29, [.ref x0, .ref v23], [(0, .ref x0), (1, .int x1)], v4)) rfl ?_
      refine go_p hX c_253 rfl rfl rfl ?_
      obtain ⟨v25, e26, hF⟩ := mm_bind hF
      refine go_gI hX c_253 rfl e26 ?_
      refine go_p hX c_253 rfl rfl ⟨rfl, rfl⟩ ?_
      refine go_adv hX c_253 2 (F2 := (36, [.int (v25 + (ki 1)), .ref x0, .int v25, .ref v23], [(0, .ref x0), (1, .int x1)], v4)) rfl ?_
      obtain ⟨h27, e28, hF⟩ := mm_bind hF
      refine go_pV hX c_253 rfl e28 ?_
      refine go_adv hX c_253 2 (F2 := (41, [.int x1.toInt8.toInt32, .int v25, .ref v23], [(0, .ref x0), (1, .int x1)], h27)) rfl ?_
      obtain ⟨h29, e30, hF⟩ := mm_bind hF
      refine go_sB hX c_253 rfl e30 ?_
      refine go_to hX 75 c_253 rfl rfl ?_
      refine go_adv hX c_253 1 (F2 := (76, [.ref x0], [(0, .ref x0), (1, .int x1)], h29)) rfl ?_
      cases hF
      exact go_aret hX c_253 rfl rfl (by first | exact Or.inl ⟨_, rfl⟩ | exact Or.inr ⟨_, rfl⟩) hQ
theorem c_242 : mm_cd 242 = k_J4_append_cf468 := rfl
def F_J4_append_cf468 (S : Nat → Nat) (h : mm_S) (x0 : Nat) (x1 : Int32) : Option (Nat × mm_S) :=
  (fx_is h x0 7).bind fun _ =>
  (F_J5_append_3fe6f S h x0 x1).bind fun v2 =>
  some (x0, v2.2)
theorem r_J4_append_cf468 {X : mm_Cl} (hX : mm_mono X) {S : Nat → Nat} (hS : mm_XS S X) {d c k : Nat} {Q : mm_Re → Prop} {h : mm_S} {x0 : Nat} {x1 : Int32} {o : (Nat × mm_S)} (hF : F_J4_append_cf468 S h x0 x1 = some o) (hQ : Q (.inl (some (.ref o.1)), o.2)) : mm_Run X (d + 5) 242 c k [.ref x0, .int x1] h Q := by
  unfold F_J4_append_cf468 at hF
  refine mm_Run_in (by decide) (by decide) (Nat.le_of_ble_eq_true rfl) ?_
  show mm_Ex (mm_Run X (d + 4)) 242 Q (0, [], [(0, .ref x0), (1, .int x1)], h) c k
  refine go_adv hX c_242 2 (F2 := (2, [.int x1, .ref x0], [(0, .ref x0), (1, .int x1)], h)) rfl ?_
  obtain ⟨_, e1, hF⟩ := mm_bind hF
  obtain ⟨v2, e3, hF⟩ := mm_bind hF
  refine go_cSU hX (As := [.int x1]) (rv := some (.ref v2.1)) (h2 := v2.2) (ci := 7) c_242 rfl (by decide) (Nat.le_of_ble_eq_true rfl) rfl rfl e1 (by decide) (Nat.le_of_ble_eq_true rfl) (fun Q2 hQ2 => r_J5_append_3fe6f hX hS (d := d) e3 hQ2) ?_
  refine go_p hX c_242 rfl rfl rfl ?_
  refine go_adv hX c_242 1 (F2 := (7, [.ref x0], [(0, .ref x0), (1, .int x1)], v2.2)) rfl ?_
  cases hF
  exact go_aret hX c_242 rfl rfl (by first | exact Or.inl ⟨_, rfl⟩ | exact Or.inr ⟨_, rfl⟩) hQ
theorem c_98 : mm_cd 98 = k_X5_append := rfl
def F_X5_append (S : Nat → Nat) (h : mm_S) (x0 : Nat) (x1 : Int32) : Option ((Int32 ⊕ String) × mm_S) :=
  (F_X5_isInRange h x1 (kb 32) (kb 126)).bind fun v1 =>
  if v1 ≠ 0 then
    (fx_gR h x0 5 8).bind fun v4 =>
    (fx_gR h v4 1 0).bind fun v6 =>
    (fx_is h v6 7).bind fun _ =>
    (F_J4_length_8abf5 h v6).bind fun v9 =>
    if v9 < (kb 60) then
      (fx_gR h x0 5 8).bind fun v12 =>
      (fx_gR h v12 1 0).bind fun v14 =>
      (fx_is h v14 7).bind fun _ =>
      (F_J4_append_cf468 S h v14 x1).bind fun v17 =>
      (fx_gR v17.2 x0 5 8).bind fun v19 =>
      (fx_gR v17.2 v19 1 0).bind fun v21 =>
      (fx_is v17.2 v21 7).bind fun _ =>
      (F_J4_length_8abf5 v17.2 v21).bind fun v24 =>
      some (.inl v24, v17.2)
    else
      some (.inr "java/lang/IllegalStateException", h)
  else
    some (.inr "java/lang/IllegalArgumentException", h)
theorem r_X5_append {X : mm_Cl} (hX : mm_mono X) {S : Nat → Nat} (hS : mm_XS S X) {d c k : Nat} {Q : mm_Re → Prop} (hck : 1 ≤ c ∧ 6 ≤ k) {h : mm_S} {x0 : Nat} {x1 : Int32} {o : ((Int32 ⊕ String) × mm_S)} (hF : F_X5_append S h x0 x1 = some o) (hQ : Q (fx_oI o.1, o.2)) : mm_Run X (d + 6) 98 c k [.ref x0, .int x1] h Q := by
  unfold F_X5_append at hF
  refine mm_Run_in (by decide) (by decide) (Nat.le_of_ble_eq_true rfl) ?_
  show mm_Ex (mm_Run X (d + 5)) 98 Q (0, [], [(0, .ref x0), (1, .int x1)], h) c k
  refine go_adv hX c_98 3 (F2 := (5, [.int (kb 126), .int (kb 32), .int x1], [(0, .ref x0), (1, .int x1)], h)) rfl ?_
  obtain ⟨v1, e2, hF⟩ := mm_bind hF
  refine go_cS hX (As := [.int x1, .int (kb 32), .int (kb 126)]) (rv := some (.int v1)) (h2 := h) c_98 rfl (by decide) (Nat.le_of_ble_eq_true rfl) rfl rfl (Nat.le_of_ble_eq_true rfl) (fun Q2 hQ2 => r_X5_isInRange hX (d := (d + 4)) e2 hQ2) ?_
  rcases mm_ite hF with ⟨hc3, hF⟩ | ⟨hc3, hF⟩
  · refine go_zt hX 22 c_98 rfl rfl hc3 ?_
    refine go_adv hX c_98 1 (F2 := (23, [.ref x0], [(0, .ref x0), (1, .int x1)], h)) rfl ?_
    obtain ⟨v4, e5, hF⟩ := mm_bind hF
    refine go_gR hX c_98 rfl e5 ?_
    obtain ⟨v6, e7, hF⟩ := mm_bind hF
    refine go_gR hX c_98 rfl e7 ?_
    obtain ⟨_, e8, hF⟩ := mm_bind hF
    obtain ⟨v9, e10, hF⟩ := mm_bind hF
    refine go_cV hX (As := []) (rv := some (.int v9)) (h2 := h) (ci := 7) c_98 rfl (Nat.le_of_ble_eq_true rfl) rfl rfl e8 (by decide) (Nat.le_of_ble_eq_true rfl) (fun Q2 hQ2 => r_J4_length_8abf5 hX (d := (d + 3)) e10 hQ2) ?_
    refine go_adv hX c_98 1 (F2 := (34, [.int (kb 60), .int v9], [(0, .ref x0), (1, .int x1)], h)) rfl ?_
    rcases mm_ite hF with ⟨hc11, hF⟩ | ⟨hc11, hF⟩
    · refine go_ct hX 48 c_98 rfl rfl hc11 ?_
      refine go_adv hX c_98 1 (F2 := (49, [.ref x0], [(0, .ref x0), (1, .int x1)], h)) rfl ?_
      obtain ⟨v12, e13, hF⟩ := mm_bind hF
      refine go_gR hX c_98 rfl e13 ?_
      obtain ⟨v14, e15, hF⟩ := mm_bind hF
      refine go_gR hX c_98 rfl e15 ?_
      refine go_adv hX c_98 1 (F2 := (56, [.int x1, .ref v14], [(0, .ref x0), (1, .int x1)], h)) rfl ?_
      obtain ⟨_, e16, hF⟩ := mm_bind hF
      obtain ⟨v17, e18, hF⟩ := mm_bind hF
      refine go_cV hX (As := [.int x1]) (rv := some (.ref v17.1)) (h2 := v17.2) (ci := 7) c_98 rfl (Nat.le_of_ble_eq_true rfl) rfl rfl e16 (by decide) (Nat.le_of_ble_eq_true rfl) (fun Q2 hQ2 => r_J4_append_cf468 hX hS (d := d) e18 hQ2) ?_
      refine go_p hX c_98 rfl rfl rfl ?_
      refine go_adv hX c_98 1 (F2 := (61, [.ref x0], [(0, .ref x0), (1, .int x1)], v17.2)) rfl ?_
      obtain ⟨v19, e20, hF⟩ := mm_bind hF
      refine go_gR hX c_98 rfl e20 ?_
      obtain ⟨v21, e22, hF⟩ := mm_bind hF
      refine go_gR hX c_98 rfl e22 ?_
      obtain ⟨_, e23, hF⟩ := mm_bind hF
      obtain ⟨v24, e25, hF⟩ := mm_bind hF
      refine go_cV hX (As := []) (rv := some (.int v24)) (h2 := v17.2) (ci := 7) c_98 rfl (Nat.le_of_ble_eq_true rfl) rfl rfl e23 (by decide) (Nat.le_of_ble_eq_true rfl) (fun Q2 hQ2 => r_J4_length_8abf5 hX (d := (d + 3)) e25 hQ2) ?_
      cases hF
      exact go_iret hX c_98 rfl rfl rfl hQ
    · refine go_cf hX c_98 rfl (by decide) hc11 ?_
      cases hF
      exact go_thr hX "java/lang/IllegalStateException" c_98 rfl (by decide) rfl (Nat.le_of_ble_eq_true rfl) hck hQ
  · refine go_zf hX c_98 rfl (by decide) hc3 ?_
    cases hF
    exact go_thr hX "java/lang/IllegalArgumentException" c_98 rfl (by decide) rfl (Nat.le_of_ble_eq_true rfl) hck hQ
theorem c_251 : mm_cd 251 = k_J5_setLength_d00df := rfl
def F_J5_setLength_d00df (S : Nat → Nat) (h : mm_S) (x0 : Nat) (x1 : Int32) : Option mm_S :=
  if 0 ≤ x1 then
    (fx_is h x0 7).bind fun _ =>
    (F_J5_ensureCapacityInternal_d00df h x0 x1).bind fun v3 =>
    (fx_gI v3 x0 7 3).bind fun v5 =>
    if x1 ≤ v5 then
      (fx_gI v3 x0 7 3).bind fun v8 =>
      if v8 ≤ x1 then
        (fx_pV v3 x0 7 3 (.int x1)).bind fun h11 =>
        some h11
      else
        (fx_pV v3 x0 7 2 (.int (ki 1))).bind fun h13 =>
        (fx_pV h13 x0 7 3 (.int x1)).bind fun h15 =>
        some h15
    else
      (fx_is v3 x0 7).bind fun _ =>
      (F_J5_isLatin1_aae02 S v3 x0).bind fun v18 =>
      if v18 = 0 then
        (fx_gR v3 x0 7 0).bind fun v21 =>
        (fx_gI v3 x0 7 3).bind fun v23 =>
        none
      else
        (fx_gR v3 x0 7 0).bind fun v25 =>
        (fx_gI v3 x0 7 3).bind fun v27 =>
        none
  else
    none
theorem r_J5_setLength_d00df {X : mm_Cl} (hX : mm_mono X) {S : Nat → Nat} (hS : mm_XS S X) {d c k : Nat} {Q : mm_Re → Prop} {h : mm_S} {x0 : Nat} {x1 : Int32} {o : mm_S} (hF : F_J5_setLength_d00df S h x0 x1 = some o) (hQ : Q (.inl none, o)) : mm_Run X (d + 4) 251 c k [.ref x0, .int x1] h Q := by
  unfold F_J5_setLength_d00df at hF
  refine mm_Run_in (by decide) (by decide) (Nat.le_of_ble_eq_true rfl) ?_
  show mm_Ex (mm_Run X (d + 3)) 251 Q (0, [], [(0, .ref x0), (1, .int x1)], h) c k
  refine go_adv hX c_251 1 (F2 := (1, [.int x1], [(0, .ref x0), (1, .int x1)], h)) rfl ?_
  rcases mm_ite hF with ⟨hc1, hF⟩ | ⟨hc1, hF⟩
  · refine go_zt hX 13 c_251 rfl rfl hc1 ?_
    refine go_adv hX c_251 2 (F2 := (15, [.int x1, .ref x0], [(0, .ref x0), (1, .int x1)], h)) rfl ?_
    obtain ⟨_, e2, hF⟩ := mm_bind hF
    obtain ⟨v3, e4, hF⟩ := mm_bind hF
    refine go_cV hX (As := [.int x1]) (rv := none) (h2 := v3) (ci := 7) c_251 rfl (Nat.le_of_ble_eq_true rfl) rfl rfl e2 (by decide) (Nat.le_of_ble_eq_true rfl) (fun Q2 hQ2 => r_J5_ensureCapacityInternal_d00df hX (d := d) e4 hQ2) ?_
    refine go_adv hX c_251 1 (F2 := (19, [.ref x0], [(0, .ref x0), (1, .int x1)], v3)) rfl ?_
    obtain ⟨v5, e6, hF⟩ := mm_bind hF
    refine go_gI hX c_251 rfl e6 ?_
    refine go_adv hX c_251 1 (F2 := (23, [.int x1, .int v5], [(0, .ref x0), (1, .int x1)], v3)) rfl ?_
    rcases mm_ite hF with ⟨hc7, hF⟩ | ⟨hc7, hF⟩
    · refine go_ct hX 63 c_251 rfl rfl hc7 ?_
      refine go_adv hX c_251 1 (F2 := (64, [.ref x0], [(0, .ref x0), (1, .int x1)], v3)) rfl ?_
      obtain ⟨v8, e9, hF⟩ := mm_bind hF
      refine go_gI hX c_251 rfl e9 ?_
      refine go_adv hX c_251 1 (F2 := (68, [.int x1, .int v8], [(0, .ref x0), (1, .int x1)], v3)) rfl ?_
      rcases mm_ite hF with ⟨hc10, hF⟩ | ⟨hc10, hF⟩
      · refine go_ct hX 76 c_251 rfl rfl hc10 ?_
        refine go_adv hX c_251 2 (F2 := (78, [.int x1, .ref x0], [(0, .ref x0), (1, .int x1)], v3)) rfl ?_
        obtain ⟨h11, e12, hF⟩ := mm_bind hF
        refine go_pV hX c_251 rfl e12 ?_
        cases hF
        exact go_ret hX c_251 rfl rfl hQ
      · refine go_cf hX c_251 rfl (by decide) hc10 ?_
        refine go_adv hX c_251 2 (F2 := (73, [.int (ki 1), .ref x0], [(0, .ref x0), (1, .int x1)], v3)) rfl ?_
        obtain ⟨h13, e14, hF⟩ := mm_bind hF
        refine go_pV hX c_251 rfl e14 ?_
        refine go_adv hX c_251 2 (F2 := (78, [.int x1, .ref x0], [(0, .ref x0), (1, .int x1)], h13)) rfl ?_
        obtain ⟨h15, e16, hF⟩ := mm_bind hF
        refine go_pV hX c_251 rfl e16 ?_
        cases hF
        exact go_ret hX c_251 rfl rfl hQ
    · refine go_cf hX c_251 rfl (by decide) hc7 ?_
      refine go_adv hX c_251 1 (F2 := (27, [.ref x0], [(0, .ref x0), (1, .int x1)], v3)) rfl ?_
      obtain ⟨_, e17, hF⟩ := mm_bind hF
      obtain ⟨v18, e19, hF⟩ := mm_bind hF
      refine go_cV hX (As := []) (rv := some (.int v18)) (h2 := v3) (ci := 7) c_251 rfl (Nat.le_of_ble_eq_true rfl) rfl rfl e17 (by decide) (Nat.le_of_ble_eq_true rfl) (fun Q2 hQ2 => r_J5_isLatin1_aae02 hX hS (d := (d + 2)) e19 hQ2) ?_
      rcases mm_ite hF with ⟨hc20, hF⟩ | ⟨hc20, hF⟩
      · refine go_zt hX 48 c_251 rfl rfl hc20 ?_
        refine go_adv hX c_251 1 (F2 := (49, [.ref x0], [(0, .ref x0), (1, .int x1)], v3)) rfl ?_
        obtain ⟨v21, e22, hF⟩ := mm_bind hF
        refine go_gR hX c_251 rfl e22 ?_
        refine go_adv hX c_251 1 (F2 := (53, [.ref x0, .ref v21], [(0, .ref x0), (1, .int x1)], v3)) rfl ?_
        obtain ⟨v23, e24, hF⟩ := mm_bind hF
        refine go_gI hX c_251 rfl e24 ?_
        refine go_adv hX c_251 1 (F2 := (57, [.int x1, .int v23, .ref v21], [(0, .ref x0), (1, .int x1)], v3)) rfl ?_
        cases hF
      · refine go_zf hX c_251 rfl (by decide) hc20 ?_
        refine go_adv hX c_251 1 (F2 := (34, [.ref x0], [(0, .ref x0), (1, .int x1)], v3)) rfl ?_
        obtain ⟨v25, e26, hF⟩ := mm_bind hF
        refine go_gR hX c_251 rfl e26 ?_
        refine go_adv hX c_251 1 (F2 := (38, [.ref x0, .ref v25], [(0, .ref x0), (1, .int x1)], v3)) rfl ?_
        obtain ⟨v27, e28, hF⟩ := mm_bind hF
        refine go_gI hX c_251 rfl e28 ?_
        refine go_adv hX c_251 1 (F2 := (42, [.int x1, .int v27, .ref v25], [(0, .ref x0), (1, .int x1)], v3)) rfl ?_
        cases hF
  · refine go_zf hX c_251 rfl (by decide) hc1 ?_
    cases hF
theorem c_245 : mm_cd 245 = k_J4_setLength_d00df := rfl
def F_J4_setLength_d00df (S : Nat → Nat) (h : mm_S) (x0 : Nat) (x1 : Int32) : Option mm_S :=
  (fx_is h x0 7).bind fun _ =>
  (F_J5_setLength_d00df S h x0 x1).bind fun v2 =>
  some v2
theorem r_J4_setLength_d00df {X : mm_Cl} (hX : mm_mono X) {S : Nat → Nat} (hS : mm_XS S X) {d c k : Nat} {Q : mm_Re → Prop} {h : mm_S} {x0 : Nat} {x1 : Int32} {o : mm_S} (hF : F_J4_setLength_d00df S h x0 x1 = some o) (hQ : Q (.inl none, o)) : mm_Run X (d + 5) 245 c k [.ref x0, .int x1] h Q := by
  unfold F_J4_setLength_d00df at hF
  refine mm_Run_in (by decide) (by decide) (Nat.le_of_ble_eq_true rfl) ?_
  show mm_Ex (mm_Run X (d + 4)) 245 Q (0, [], [(0, .ref x0), (1, .int x1)], h) c k
  refine go_adv hX c_245 2 (F2 := (2, [.int x1, .ref x0], [(0, .ref x0), (1, .int x1)], h)) rfl ?_
  obtain ⟨_, e1, hF⟩ := mm_bind hF
  obtain ⟨v2, e3, hF⟩ := mm_bind hF
  refine go_cSU hX (As := [.int x1]) (rv := none) (h2 := v2) (ci := 7) c_245 rfl (by decide) (Nat.le_of_ble_eq_true rfl) rfl rfl e1 (by decide) (Nat.le_of_ble_eq_true rfl) (fun Q2 hQ2 => r_J5_setLength_d00df hX hS (d := d) e3 hQ2) ?_
  cases hF
  exact go_ret hX c_245 rfl rfl hQ
theorem c_114 : mm_cd 114 = k_X5_isAnyOrderRefused := rfl
def F_X5_isAnyOrderRefused_L13 : Nat → Nat → Int32 → mm_S → Option ((Int32 × mm_S) ⊕ mm_S)
  | 0, _, _, _ => none
  | n + 1, x0, x1, h =>
    (fx_gR h x0 5 8).bind fun v8 =>
    (fx_gI h v8 1 3).bind fun v10 =>
    if v10 ≤ x1 then
      some (.inr h)
    else
      (fx_gR h x0 5 8).bind fun v13 =>
      (fx_gR h x0 5 1).bind fun v15 =>
      (fx_is h v13 1).bind fun _ =>
      (F_X1_whyNotDo h v13 x1 v15).bind fun v18 =>
      if (lg_cmp v18 (kl 0)) = 0 then
        (fx_gR h x0 5 8).bind fun v21 =>
        (fx_gR h x0 5 1).bind fun v23 =>
        (fx_is h v21 1).bind fun _ =>
        (F_X1_doOrder h v21 x1 v23).bind fun v26 =>
        F_X5_isAnyOrderRefused_L13 n x0 (x1 + ki 1) v26.2
      else
        (F_X5_refusalFor h (kb 16) x1).bind fun v28 =>
        (fx_pV h x0 5 10 (.long v28)).bind fun h30 =>
        (fx_pV h30 x0 5 11 (.long v18)).bind fun h32 =>
        some (.inl (ki 1, h32))
def F_X5_isAnyOrderRefused (h : mm_S) (x0 : Nat) : Option (Int32 × mm_S) :=
  (fx_gR h x0 5 1).bind fun v1 =>
  (fx_gR h x0 5 0).bind fun v3 =>
  (fx_is h v1 3).bind fun _ =>
  (F_X3_copyFrom h v1 v3).bind fun v6 =>
  (F_X5_isAnyOrderRefused_L13 1000 x0 (ki 0) v6).bind fun o34 => match o34 with
    | .inl o34r => some o34r
    | .inr o34e =>
      some (ki 0, o34e)
theorem r_X5_isAnyOrderRefused_L13 {X : mm_Cl} (hX : mm_mono X) {d c k : Nat} {Q : mm_Re → Prop} : ∀ (n : Nat) (x0 : Nat) (x1 : Int32) (h : mm_S) (o : ((Int32 × mm_S) ⊕ mm_S)), F_X5_isAnyOrderRefused_L13 n x0 x1 h = some o → (∀ r, o = .inl r → Q (.inl (some (.int r.1)), r.2)) → (∀ e, o = .inr e → mm_Ex (mm_Run X (d + 6)) 114 Q (79, [], [], e) c k) → mm_Ex (mm_Run X (d + 6)) 114 Q (13, [], [(0, .ref x0), (1, .int x1)], h) c k := by
  intro n
  induction n with
  | zero => intro x0 x1 h o hF; cases hF
  | succ n ih =>
    intro x0 x1 h o hF hR hE
    unfold F_X5_isAnyOrderRefused_L13 at hF
    refine go_adv hX c_114 2 (F2 := (15, [.ref x0, .int x1], [(0, .ref x0), (1, .int x1)], h)) rfl ?_
    obtain ⟨v8, e9, hF⟩ := mm_bind hF
    refine go_gR hX c_114 rfl e9 ?_
    obtain ⟨v10, e11, hF⟩ := mm_bind hF
    refine go_gI hX c_114 rfl e11 ?_
    rcases mm_ite hF with ⟨hc12, hF⟩ | ⟨hc12, hF⟩
    · refine go_ct hX 79 c_114 rfl rfl hc12 ?_
      cases hF
      refine go_ls [] trivial ?_
      exact hE _ rfl
    · refine go_cf hX c_114 rfl (by decide) hc12 ?_
      refine go_adv hX c_114 1 (F2 := (25, [.ref x0], [(0, .ref x0), (1, .int x1)], h)) rfl ?_
      obtain ⟨v13, e14, hF⟩ := mm_bind hF
      refine go_gR hX c_114 rfl e14 ?_
      refine go_adv hX c_114 2 (F2 := (30, [.ref x0, .int x1, .ref v13], [(0, .ref x0), (1, .int x1)], h)) rfl ?_
      obtain ⟨v15, e16, hF⟩ := mm_bind hF
      refine go_gR hX c_114 rfl e16 ?_
      obtain ⟨_, e17, hF⟩ := mm_bind hF
      obtain ⟨v18, e19, hF⟩ := mm_bind hF
      refine go_cV hX (As := [.int x1, .ref v15]) (rv := some (.long v18)) (h2 := h) (ci := 1) c_114 rfl (Nat.le_of_ble_eq_true rfl) rfl rfl e17 (by decide) (Nat.le_of_ble_eq_true rfl) (fun Q2 hQ2 => r_X1_whyNotDo hX (d := (d + 1)) e19 hQ2) ?_
      refine go_adv hX c_114 4 (F2 := (40, [.int (lg_cmp v18 (kl 0))], [(2, .long v18), (0, .ref x0), (1, .int x1)], h)) rfl ?_
      rcases mm_ite hF with ⟨hc20, hF⟩ | ⟨hc20, hF⟩
      · refine go_zt hX 60 c_114 rfl rfl hc20 ?_
        refine go_adv hX c_114 1 (F2 := (61, [.ref x0], [(2, .long v18), (0, .ref x0), (1, .int x1)], h)) rfl ?_
        obtain ⟨v21, e22, hF⟩ := mm_bind hF
        refine go_gR hX c_114 rfl e22 ?_
        refine go_adv hX c_114 2 (F2 := (66, [.ref x0, .int x1, .ref v21], [(2, .long v18), (0, .ref x0), (1, .int x1)], h)) rfl ?_
        obtain ⟨v23, e24, hF⟩ := mm_bind hF
        refine go_gR hX c_114 rfl e24 ?_
        obtain ⟨_, e25, hF⟩ := mm_bind hF
        obtain ⟨v26, e27, hF⟩ := mm_bind hF
        refine go_cV hX (As := [.int x1, .ref v23]) (rv := some (.int v26.1)) (h2 := v26.2) (ci := 1) c_114 rfl (Nat.le_of_ble_eq_true rfl) rfl rfl e25 (by decide) (Nat.le_of_ble_eq_true rfl) (fun Q2 hQ2 => r_X1_doOrder hX (d := d) e27 hQ2) ?_
        refine go_p hX c_114 rfl rfl rfl ?_
        refine go_adv hX c_114 1 (F2 := (76, [], [(1, .int (x1 + ki 1)), (2, .long v18), (0, .ref x0)], v26.2)) rfl ?_
        refine go_to hX 13 c_114 rfl rfl ?_
        refine go_ls [(0, .ref x0), (1, .int (x1 + ki 1))] ⟨rfl, ⟨rfl, trivial⟩⟩ ?_
        exact ih x0 (x1 + ki 1) v26.2 _ hF hR hE
      · refine go_zf hX c_114 rfl (by decide) hc20 ?_
        refine go_adv hX c_114 3 (F2 := (47, [.int x1, .int (kb 16), .ref x0], [(2, .long v18), (0, .ref x0), (1, .int x1)], h)) rfl ?_
        obtain ⟨v28, e29, hF⟩ := mm_bind hF
        refine go_cS hX (As := [.int (kb 16), .int x1]) (rv := some (.long v28)) (h2 := h) c_114 rfl (by decide) (Nat.le_of_ble_eq_true rfl) rfl rfl (Nat.le_of_ble_eq_true rfl) (fun Q2 hQ2 => r_X5_refusalFor hX (d := (d + 5)) e29 hQ2) ?_
        obtain ⟨h30, e31, hF⟩ := mm_bind hF
        refine go_pV hX c_114 rfl e31 ?_
        refine go_adv hX c_114 2 (F2 := (55, [.long v18, .ref x0], [(2, .long v18), (0, .ref x0), (1, .int x1)], h30)) rfl ?_
        obtain ⟨h32, e33, hF⟩ := mm_bind hF
        refine go_pV hX c_114 rfl e33 ?_
        refine go_adv hX c_114 1 (F2 := (59, [.int (ki 1)], [(2, .long v18), (0, .ref x0), (1, .int x1)], h32)) rfl ?_
        cases hF
        have hQ := hR _ rfl
        exact go_iret hX c_114 rfl rfl (by decide) hQ
theorem r_X5_isAnyOrderRefused {X : mm_Cl} (hX : mm_mono X) {d c k : Nat} {Q : mm_Re → Prop} {h : mm_S} {x0 : Nat} {o : (Int32 × mm_S)} (hF : F_X5_isAnyOrderRefused h x0 = some o) (hQ : Q (.inl (some (.int o.1)), o.2)) : mm_Run X (d + 7) 114 c k [.ref x0] h Q := by
  unfold F_X5_isAnyOrderRefused at hF
  refine mm_Run_in (by decide) (by decide) (Nat.le_of_ble_eq_true rfl) ?_
  show mm_Ex (mm_Run X (d + 6)) 114 Q (0, [], [(0, .ref x0)], h) c k
  refine go_adv hX c_114 1 (F2 := (1, [.ref x0], [(0, .ref x0)], h)) rfl ?_
  obtain ⟨v1, e2, hF⟩ := mm_bind hF
  refine go_gR hX c_114 rfl e2 ?_
  refine go_adv hX c_114 1 (F2 := (5, [.ref x0, .ref v1], [(0, .ref x0)], h)) rfl ?_
  obtain ⟨v3, e4, hF⟩ := mm_bind hF
  refine go_gR hX c_114 rfl e4 ?_
  obtain ⟨_, e5, hF⟩ := mm_bind hF
  obtain ⟨v6, e7, hF⟩ := mm_bind hF
  refine go_cV hX (As := [.ref v3]) (rv := none) (h2 := v6) (ci := 3) c_114 rfl (Nat.le_of_ble_eq_true rfl) rfl rfl e5 (by decide) (Nat.le_of_ble_eq_true rfl) (fun Q2 hQ2 => r_X3_copyFrom hX (d := (d + 4)) e7 hQ2) ?_
  refine go_adv hX c_114 2 (F2 := (13, [], [(1, .int (ki 0)), (0, .ref x0)], v6)) rfl ?_
  refine go_ls [(0, .ref x0), (1, .int (ki 0))] ⟨rfl, ⟨rfl, trivial⟩⟩ ?_
  obtain ⟨o34, e35, hF⟩ := mm_bind hF
  refine r_X5_isAnyOrderRefused_L13 hX 1000 x0 (ki 0) v6 o34 e35 ?_ ?_
  · intro o34r hr
    subst hr
    dsimp only at hF
    cases hF
    exact hQ
  · intro o34e he
    subst he
    dsimp only at hF
    refine go_adv hX c_114 1 (F2 := (80, [.int (ki 0)], [], o34e)) rfl ?_
    cases hF
    exact go_iret hX c_114 rfl rfl (by decide) hQ
theorem c_99 : mm_cd 99 = k_X5_run := rfl
def F_X5_run (S : Nat → Nat) (h : mm_S) (x0 : Nat) : Option ((Int32 ⊕ String) × mm_S) :=
  (fx_gR h x0 5 8).bind fun v1 =>
  (fx_is h v1 1).bind fun _ =>
  (F_X1_read S h v1).bind fun v4 =>
  (fx_pV v4.2 x0 5 9 (.int v4.1)).bind fun h6 =>
  (fx_gR h6 x0 5 8).bind fun v8 =>
  (fx_gR h6 v8 1 0).bind fun v10 =>
  (fx_is h6 v10 7).bind fun _ =>
  (F_J4_setLength_d00df S h6 v10 (ki 0)).bind fun v13 =>
  (fx_gI v13 x0 5 9).bind fun v15 =>
  if v15 = (ki (-1)) then
    (fx_is v13 x0 5).bind fun _ =>
    (F_X5_isAnyOrderRefused v13 x0).bind fun v19 =>
    if v19.1 = 0 then
      (fx_is v19.2 x0 5).bind fun _ =>
      (F_X5_remember v19.2 x0).bind fun v23 =>
      (fx_gR v23 x0 5 0).bind fun v25 =>
      (fx_gR v23 x0 5 1).bind fun v27 =>
      (fx_is v23 v25 3).bind fun _ =>
      (F_X3_copyFrom v23 v25 v27).bind fun v30 =>
      (fx_gR v30 x0 5 8).bind fun v32 =>
      (fx_gI v30 v32 1 3).bind fun v34 =>
      some (.inl v34, v30)
    else
      some (.inr "java/lang/UnsupportedOperationException", v19.2)
  else
    some (.inr "java/lang/IllegalArgumentException", v13)
theorem r_X5_run {X : mm_Cl} (hX : mm_mono X) {S : Nat → Nat} (hS : mm_XS S X) {d c k : Nat} {Q : mm_Re → Prop} (hck : 1 ≤ c ∧ 6 ≤ k) {h : mm_S} {x0 : Nat} {o : ((Int32 ⊕ String) × mm_S)} (hF : F_X5_run S h x0 = some o) (hQ : Q (fx_oI o.1, o.2)) : mm_Run X (d + 8) 99 c k [.ref x0] h Q := by
  unfold F_X5_run at hF
  refine mm_Run_in (by decide) (by decide) (Nat.le_of_ble_eq_true rfl) ?_
  show mm_Ex (mm_Run X (d + 7)) 99 Q (0, [], [(0, .ref x0)], h) c k
  refine go_adv hX c_99 2 (F2 := (2, [.ref x0, .ref x0], [(0, .ref x0)], h)) rfl ?_
  obtain ⟨v1, e2, hF⟩ := mm_bind hF
  refine go_gR hX c_99 rfl e2 ?_
  obtain ⟨_, e3, hF⟩ := mm_bind hF
  obtain ⟨v4, e5, hF⟩ := mm_bind hF
  refine go_cV hX (As := []) (rv := some (.int v4.1)) (h2 := v4.2) (ci := 1) c_99 rfl (Nat.le_of_ble_eq_true rfl) rfl rfl e3 (by decide) (Nat.le_of_ble_eq_true rfl) (fun Q2 hQ2 => r_X1_read hX hS (d := (d + 1)) e5 hQ2) ?_
  obtain ⟨h6, e7, hF⟩ := mm_bind hF
  refine go_pV hX c_99 rfl e7 ?_
  refine go_adv hX c_99 1 (F2 := (12, [.ref x0], [(0, .ref x0)], h6)) rfl ?_
  obtain ⟨v8, e9, hF⟩ := mm_bind hF
  refine go_gR hX c_99 rfl e9 ?_
  obtain ⟨v10, e11, hF⟩ := mm_bind hF
  refine go_gR hX c_99 rfl e11 ?_
  refine go_adv hX c_99 1 (F2 := (19, [.int (ki 0), .ref v10], [(0, .ref x0)], h6)) rfl ?_
  obtain ⟨_, e12, hF⟩ := mm_bind hF
  obtain ⟨v13, e14, hF⟩ := mm_bind hF
  refine go_cV hX (As := [.int (ki 0)]) (rv := none) (h2 := v13) (ci := 7) c_99 rfl (Nat.le_of_ble_eq_true rfl) rfl rfl e12 (by decide) (Nat.le_of_ble_eq_true rfl) (fun Q2 hQ2 => r_J4_setLength_d00df hX hS (d := (d + 2)) e14 hQ2) ?_
  refine go_adv hX c_99 1 (F2 := (23, [.ref x0], [(0, .ref x0)], v13)) rfl ?_
  obtain ⟨v15, e16, hF⟩ := mm_bind hF
  refine go_gI hX c_99 rfl e16 ?_
  refine go_adv hX c_99 1 (F2 := (27, [.int (ki (-1)), .int v15], [(0, .ref x0)], v13)) rfl ?_
  rcases mm_ite hF with ⟨hc17, hF⟩ | ⟨hc17, hF⟩
  · refine go_ct hX 41 c_99 rfl rfl hc17 ?_
    refine go_adv hX c_99 1 (F2 := (42, [.ref x0], [(0, .ref x0)], v13)) rfl ?_
    obtain ⟨_, e18, hF⟩ := mm_bind hF
    obtain ⟨v19, e20, hF⟩ := mm_bind hF
    refine go_cV hX (As := []) (rv := some (.int v19.1)) (h2 := v19.2) (ci := 5) c_99 rfl (Nat.le_of_ble_eq_true rfl) rfl rfl e18 (by decide) (Nat.le_of_ble_eq_true rfl) (fun Q2 hQ2 => r_X5_isAnyOrderRefused hX (d := d) e20 hQ2) ?_
    rcases mm_ite hF with ⟨hc21, hF⟩ | ⟨hc21, hF⟩
    · refine go_zt hX 59 c_99 rfl rfl hc21 ?_
      refine go_adv hX c_99 1 (F2 := (60, [.ref x0], [(0, .ref x0)], v19.2)) rfl ?_
      obtain ⟨_, e22, hF⟩ := mm_bind hF
      obtain ⟨v23, e24, hF⟩ := mm_bind hF
      refine go_cV hX (As := []) (rv := none) (h2 := v23) (ci := 5) c_99 rfl (Nat.le_of_ble_eq_true rfl) rfl rfl e22 (by decide) (Nat.le_of_ble_eq_true rfl) (fun Q2 hQ2 => r_X5_remember hX (d := (d + 4)) e24 hQ2) ?_
      refine go_adv hX c_99 1 (F2 := (64, [.ref x0], [(0, .ref x0)], v23)) rfl ?_
      obtain ⟨v25, e26, hF⟩ := mm_bind hF
      refine go_gR hX c_99 rfl e26 ?_
      refine go_adv hX c_99 1 (F2 := (68, [.ref x0, .ref v25], [(0, .ref x0)], v23)) rfl ?_
      obtain ⟨v27, e28, hF⟩ := mm_bind hF
      refine go_gR hX c_99 rfl e28 ?_
      obtain ⟨_, e29, hF⟩ := mm_bind hF
      obtain ⟨v30, e31, hF⟩ := mm_bind hF
      refine go_cV hX (As := [.ref v27]) (rv := none) (h2 := v30) (ci := 3) c_99 rfl (Nat.le_of_ble_eq_true rfl) rfl rfl e29 (by decide) (Nat.le_of_ble_eq_true rfl) (fun Q2 hQ2 => r_X3_copyFrom hX (d := (d + 5)) e31 hQ2) ?_
      refine go_adv hX c_99 1 (F2 := (75, [.ref x0], [(0, .ref x0)], v30)) rfl ?_
      obtain ⟨v32, e33, hF⟩ := mm_bind hF
      refine go_gR hX c_99 rfl e33 ?_
      obtain ⟨v34, e35, hF⟩ := mm_bind hF
      refine go_gI hX c_99 rfl e35 ?_
      cases hF
      exact go_iret hX c_99 rfl rfl rfl hQ
    · refine go_zf hX c_99 rfl (by decide) hc21 ?_
      cases hF
      exact go_thr hX "java/lang/UnsupportedOperationException" c_99 rfl (by decide) rfl (Nat.le_of_ble_eq_true rfl) hck hQ
  · refine go_cf hX c_99 rfl (by decide) hc17 ?_
    cases hF
    exact go_thr hX "java/lang/IllegalArgumentException" c_99 rfl (by decide) rfl (Nat.le_of_ble_eq_true rfl) hck hQ
theorem c_100 : mm_cd 100 = k_X5_faultPosition := rfl
def F_X5_faultPosition (h : mm_S) (x0 : Nat) : Option Int32 :=
  (fx_gI h x0 5 9).bind fun v1 =>
  some v1
theorem r_X5_faultPosition {X : mm_Cl} (hX : mm_mono X) {d c k : Nat} {Q : mm_Re → Prop} {h : mm_S} {x0 : Nat} {o : Int32} (hF : F_X5_faultPosition h x0 = some o) (hQ : Q (.inl (some (.int o)), h)) : mm_Run X (d + 1) 100 c k [.ref x0] h Q := by
  unfold F_X5_faultPosition at hF
  refine mm_Run_in (by decide) (by decide) (Nat.le_of_ble_eq_true rfl) ?_
  show mm_Ex (mm_Run X d) 100 Q (0, [], [(0, .ref x0)], h) c k
  refine go_adv hX c_100 1 (F2 := (1, [.ref x0], [(0, .ref x0)], h)) rfl ?_
  obtain ⟨v1, e2, hF⟩ := mm_bind hF
  refine go_gI hX c_100 rfl e2 ?_
  cases hF
  exact go_iret hX c_100 rfl rfl rfl hQ
theorem c_122 : mm_cd 122 = k_X5_detailOf := rfl
def F_X5_detailOf (h : mm_S) (x0 : Int64) : Option Int32 :=
  some x0.toInt32
theorem r_X5_detailOf {X : mm_Cl} (hX : mm_mono X) {d c k : Nat} {Q : mm_Re → Prop} {h : mm_S} {x0 : Int64} {o : Int32} (hF : F_X5_detailOf h x0 = some o) (hQ : Q (.inl (some (.int o)), h)) : mm_Run X (d + 1) 122 c k [.long x0] h Q := by
  unfold F_X5_detailOf at hF
  refine mm_Run_in (by decide) (by decide) (Nat.le_of_ble_eq_true rfl) ?_
  show mm_Ex (mm_Run X d) 122 Q (0, [], [(0, .long x0)], h) c k
  refine go_adv hX c_122 2 (F2 := (2, [.int x0.toInt32], [(0, .long x0)], h)) rfl ?_
  cases hF
  exact go_iret hX c_122 rfl rfl rfl hQ
theorem c_121 : mm_cd 121 = k_X5_numberOf := rfl
def F_X5_numberOf (h : mm_S) (x0 : Int64) : Option Int32 :=
  some ((x0 >>> ((kb 32).toInt64 &&& 63)).toInt32)
theorem r_X5_numberOf {X : mm_Cl} (hX : mm_mono X) {d c k : Nat} {Q : mm_Re → Prop} {h : mm_S} {x0 : Int64} {o : Int32} (hF : F_X5_numberOf h x0 = some o) (hQ : Q (.inl (some (.int o)), h)) : mm_Run X (d + 1) 121 c k [.long x0] h Q := by
  unfold F_X5_numberOf at hF
  refine mm_Run_in (by decide) (by decide) (Nat.le_of_ble_eq_true rfl) ?_
  show mm_Ex (mm_Run X d) 121 Q (0, [], [(0, .long x0)], h) c k
  refine go_adv hX c_121 4 (F2 := (5, [.int ((x0 >>> ((kb 32).toInt64 &&& 63)).toInt32)], [(0, .long x0)], h)) rfl ?_
  cases hF
  exact go_iret hX c_121 rfl rfl rfl hQ
theorem c_101 : mm_cd 101 = k_X5_reason := rfl
def F_X5_reason (h : mm_S) (x0 : Nat) (x1 : Int32) (x2 : Int32) : Option (Int32 ⊕ String) :=
  (F_X5_isInRange h x1 (ki 0) (ki 1)).bind fun v1 =>
  if v1 ≠ 0 then
    if x1 ≠ 0 then
      (fx_gL h x0 5 11).bind fun v5 =>
      if (lg_cmp v5 (kl 0)) ≠ 0 then
        if x2 = 0 then
          (F_X5_numberOf h v5).bind fun v9 =>
          some (.inl v9)
        else
          (F_X5_detailOf h v5).bind fun v11 =>
          some (.inl v11)
      else
        some (.inr "java/util/NoSuchElementException")
    else
      (fx_gL h x0 5 10).bind fun v13 =>
      if (lg_cmp v13 (kl 0)) ≠ 0 then
        if x2 = 0 then
          (F_X5_numberOf h v13).bind fun v17 =>
          some (.inl v17)
        else
          (F_X5_detailOf h v13).bind fun v19 =>
          some (.inl v19)
      else
        some (.inr "java/util/NoSuchElementException")
  else
    some (.inr "java/lang/IllegalArgumentException")
theorem r_X5_reason {X : mm_Cl} (hX : mm_mono X) {d c k : Nat} {Q : mm_Re → Prop} (hck : 1 ≤ c ∧ 6 ≤ k) {h : mm_S} {x0 : Nat} {x1 : Int32} {x2 : Int32} {o : (Int32 ⊕ String)} (hF : F_X5_reason h x0 x1 x2 = some o) (hQ : Q (fx_oI o, h)) : mm_Run X (d + 2) 101 c k [.ref x0, .int x1, .int x2] h Q := by
  unfold F_X5_reason at hF
  refine mm_Run_in (by decide) (by decide) (Nat.le_of_ble_eq_true rfl) ?_
  show mm_Ex (mm_Run X (d + 1)) 101 Q (0, [], [(0, .ref x0), (1, .int x1), (2, .int x2)], h) c k
  refine go_adv hX c_101 3 (F2 := (3, [.int (ki 1), .int (ki 0), .int x1], [(0, .ref x0), (1, .int x1), (2, .int x2)], h)) rfl ?_
  obtain ⟨v1, e2, hF⟩ := mm_bind hF
  refine go_cS hX (As := [.int x1, .int (ki 0), .int (ki 1)]) (rv := some (.int v1)) (h2 := h) c_101 rfl (by decide) (Nat.le_of_ble_eq_true rfl) rfl rfl (Nat.le_of_ble_eq_true rfl) (fun Q2 hQ2 => r_X5_isInRange hX (d := d) e2 hQ2) ?_
  rcases mm_ite hF with ⟨hc3, hF⟩ | ⟨hc3, hF⟩
  · refine go_zt hX 20 c_101 rfl rfl hc3 ?_
    refine go_adv hX c_101 1 (F2 := (21, [.int x1], [(0, .ref x0), (1, .int x1), (2, .int x2)], h)) rfl ?_
    rcases mm_ite hF with ⟨hc4, hF⟩ | ⟨hc4, hF⟩
    · refine go_zt hX 31 c_101 rfl rfl hc4 ?_
      refine go_adv hX c_101 1 (F2 := (32, [.ref x0], [(0, .ref x0), (1, .int x1), (2, .int x2)], h)) rfl ?_
      obtain ⟨v5, e6, hF⟩ := mm_bind hF
      refine go_gL hX c_101 rfl e6 ?_
      refine go_adv hX c_101 4 (F2 := (39, [.int (lg_cmp v5 (kl 0))], [(3, .long v5), (0, .ref x0), (1, .int x1), (2, .int x2)], h)) rfl ?_
      rcases mm_ite hF with ⟨hc7, hF⟩ | ⟨hc7, hF⟩
      · refine go_zt hX 53 c_101 rfl rfl hc7 ?_
        refine go_adv hX c_101 1 (F2 := (54, [.int x2], [(3, .long v5), (0, .ref x0), (1, .int x1), (2, .int x2)], h)) rfl ?_
        rcases mm_ite hF with ⟨hc8, hF⟩ | ⟨hc8, hF⟩
        · refine go_zt hX 64 c_101 rfl rfl hc8 ?_
          refine go_adv hX c_101 1 (F2 := (65, [.long v5], [(3, .long v5), (0, .ref x0), (1, .int x1), (2, .int x2)], h)) rfl ?_
          obtain ⟨v9, e10, hF⟩ := mm_bind hF
          refine go_cS hX (As := [.long v5]) (rv := some (.int v9)) (h2 := h) c_101 rfl (by decide) (Nat.le_of_ble_eq_true rfl) rfl rfl (Nat.le_of_ble_eq_true rfl) (fun Q2 hQ2 => r_X5_numberOf hX (d := d) e10 hQ2) ?_
          cases hF
          exact go_iret hX c_101 rfl rfl rfl hQ
        · refine go_zf hX c_101 rfl (by decide) hc8 ?_
          refine go_adv hX c_101 1 (F2 := (58, [.long v5], [(3, .long v5), (0, .ref x0), (1, .int x1), (2, .int x2)], h)) rfl ?_
          obtain ⟨v11, e12, hF⟩ := mm_bind hF
          refine go_cS hX (As := [.long v5]) (rv := some (.int v11)) (h2 := h) c_101 rfl (by decide) (Nat.le_of_ble_eq_true rfl) rfl rfl (Nat.le_of_ble_eq_true rfl) (fun Q2 hQ2 => r_X5_detailOf hX (d := d) e12 hQ2) ?_
          refine go_to hX 68 c_101 rfl rfl ?_
          cases hF
          exact go_iret hX c_101 rfl rfl rfl hQ
      · refine go_zf hX c_101 rfl (by decide) hc7 ?_
        cases hF
        exact go_thr hX "java/util/NoSuchElementException" c_101 rfl (by decide) rfl (Nat.le_of_ble_eq_true rfl) hck hQ
    · refine go_zf hX c_101 rfl (by decide) hc4 ?_
      refine go_adv hX c_101 1 (F2 := (25, [.ref x0], [(0, .ref x0), (1, .int x1), (2, .int x2)], h)) rfl ?_
      obtain ⟨v13, e14, hF⟩ := mm_bind hF
      refine go_gL hX c_101 rfl e14 ?_
      refine go_to hX 35 c_101 rfl rfl ?_
      refine go_adv hX c_101 4 (F2 := (39, [.int (lg_cmp v13 (kl 0))], [(3, .long v13), (0, .ref x0), (1, .int x1), (2, .int x2)], h)) rfl ?_
      rcases mm_ite hF with ⟨hc15, hF⟩ | ⟨hc15, hF⟩
      · refine go_zt hX 53 c_101 rfl rfl hc15 ?_
        refine go_adv hX c_101 1 (F2 := (54, [.int x2], [(3, .long v13), (0, .ref x0), (1, .int x1), (2, .int x2)], h)) rfl ?_
        rcases mm_ite hF with ⟨hc16, hF⟩ | ⟨hc16, hF⟩
        · refine go_zt hX 64 c_101 rfl rfl hc16 ?_
          refine go_adv hX c_101 1 (F2 := (65, [.long v13], [(3, .long v13), (0, .ref x0), (1, .int x1), (2, .int x2)], h)) rfl ?_
          obtain ⟨v17, e18, hF⟩ := mm_bind hF
          refine go_cS hX (As := [.long v13]) (rv := some (.int v17)) (h2 := h) c_101 rfl (by decide) (Nat.le_of_ble_eq_true rfl) rfl rfl (Nat.le_of_ble_eq_true rfl) (fun Q2 hQ2 => r_X5_numberOf hX (d := d) e18 hQ2) ?_
          cases hF
          exact go_iret hX c_101 rfl rfl rfl hQ
        · refine go_zf hX c_101 rfl (by decide) hc16 ?_
          refine go_adv hX c_101 1 (F2 := (58, [.long v13], [(3, .long v13), (0, .ref x0), (1, .int x1), (2, .int x2)], h)) rfl ?_
          obtain ⟨v19, e20, hF⟩ := mm_bind hF
          refine go_cS hX (As := [.long v13]) (rv := some (.int v19)) (h2 := h) c_101 rfl (by decide) (Nat.le_of_ble_eq_true rfl) rfl rfl (Nat.le_of_ble_eq_true rfl) (fun Q2 hQ2 => r_X5_detailOf hX (d := d) e20 hQ2) ?_
          refine go_to hX 68 c_101 rfl rfl ?_
          cases hF
          exact go_iret hX c_101 rfl rfl rfl hQ
      · refine go_zf hX c_101 rfl (by decide) hc15 ?_
        cases hF
        exact go_thr hX "java/util/NoSuchElementException" c_101 rfl (by decide) rfl (Nat.le_of_ble_eq_true rfl) hck hQ
  · refine go_zf hX c_101 rfl (by decide) hc3 ?_
    cases hF
    exact go_thr hX "java/lang/IllegalArgumentException" c_101 rfl (by decide) rfl (Nat.le_of_ble_eq_true rfl) hck hQ
theorem c_257 : mm_cd 257 = k_J6_stringSize_0f7a4 := rfl
def F_J6_stringSize_0f7a4_L16 (h : mm_S) : Nat → Int32 → Int32 → Int32 → Int32 → Option (Int32 ⊕ Unit)
  | 0, _, _, _, _ => none
  | n + 1, x0, x1, x2, x3 =>
    if (kb 10) ≤ x3 then
      some (.inr (()))
    else
      if x0 ≤ x2 then
        F_J6_stringSize_0f7a4_L16 h n x0 x1 ((kb 10) * x2) (x3 + ki 1)
      else
        some (.inl (x3 + x1))
def F_J6_stringSize_0f7a4_B11 (h : mm_S) (x0 : Int32) (x1 : Int32) : Option Int32 :=
  (F_J6_stringSize_0f7a4_L16 h 1000 x0 x1 (kb (-10)) (ki 1)).bind fun o4 => match o4 with
    | .inl o4r => some o4r
    | .inr o4e =>
      some ((kb 10) + x1)
def F_J6_stringSize_0f7a4 (h : mm_S) (x0 : Int32) : Option Int32 :=
  if x0 < 0 then
    F_J6_stringSize_0f7a4_B11 h x0 (ki 1)
  else
    F_J6_stringSize_0f7a4_B11 h (-x0) (ki 0)
theorem r_J6_stringSize_0f7a4_L16 {X : mm_Cl} (hX : mm_mono X) {d c k : Nat} {Q : mm_Re → Prop} {h : mm_S} : ∀ (n : Nat) (x0 : Int32) (x1 : Int32) (x2 : Int32) (x3 : Int32) (o : (Int32 ⊕ Unit)), F_J6_stringSize_0f7a4_L16 h n x0 x1 x2 x3 = some o → (∀ r, o = .inl r → Q (.inl (some (.int r)), h)) → (∀ e, o = .inr e → mm_Ex (mm_Run X d) 257 Q (42, [], [(1, .int x1)], h) c k) → mm_Ex (mm_Run X d) 257 Q (16, [], [(0, .int x0), (1, .int x1), (2, .int x2), (3, .int x3)], h) c k := by
  intro n
  induction n with
  | zero => intro x0 x1 x2 x3 o hF; cases hF
  | succ n ih =>
    intro x0 x1 x2 x3 o hF hR hE
    unfold F_J6_stringSize_0f7a4_L16 at hF
    refine go_adv hX c_257 2 (F2 := (19, [.int (kb 10), .int x3], [(0, .int x0), (1, .int x1), (2, .int x2), (3, .int x3)], h)) rfl ?_
    rcases mm_ite hF with ⟨hc2, hF⟩ | ⟨hc2, hF⟩
    · refine go_ct hX 42 c_257 rfl rfl hc2 ?_
      cases hF
      refine go_ls [(1, .int x1)] ⟨rfl, trivial⟩ ?_
      exact hE _ rfl
    · refine go_cf hX c_257 rfl (by decide) hc2 ?_
      refine go_adv hX c_257 2 (F2 := (24, [.int x2, .int x0], [(0, .int x0), (1, .int x1), (2, .int x2), (3, .int x3)], h)) rfl ?_
      rcases mm_ite hF with ⟨hc3, hF⟩ | ⟨hc3, hF⟩
      · refine go_ct hX 31 c_257 rfl rfl hc3 ?_
        refine go_adv hX c_257 5 (F2 := (39, [], [(3, .int (x3 + ki 1)), (2, .int ((kb 10) * x2)), (0, .int x0), (1, .int x1)], h)) rfl ?_
        refine go_to hX 16 c_257 rfl rfl ?_
        refine go_ls [(0, .int x0), (1, .int x1), (2, .int ((kb 10) * x2)), (3, .int (x3 + ki 1))] ⟨rfl, ⟨rfl, ⟨rfl, ⟨rfl, trivial⟩⟩⟩⟩ ?_
        exact ih x0 x1 ((kb 10) * x2) (x3 + ki 1) _ hF hR hE
      · refine go_cf hX c_257 rfl (by decide) hc3 ?_
        refine go_adv hX c_257 3 (F2 := (30, [.int (x3 + x1)], [(0, .int x0), (1, .int x1), (2, .int x2), (3, .int x3)], h)) rfl ?_
        cases hF
        have hQ := hR _ rfl
        exact go_iret hX c_257 rfl rfl rfl hQ
theorem r_J6_stringSize_0f7a4_B11 {X : mm_Cl} (hX : mm_mono X) {d c k : Nat} {Q : mm_Re → Prop} {h : mm_S} {x0 : Int32} {x1 : Int32} {o : Int32} (hF : F_J6_stringSize_0f7a4_B11 h x0 x1 = some o) (hQ : Q (.inl (some (.int o)), h)) : mm_Ex (mm_Run X d) 257 Q (11, [], [(0, .int x0), (1, .int x1)], h) c k := by
  unfold F_J6_stringSize_0f7a4_B11 at hF
  refine go_adv hX c_257 4 (F2 := (16, [], [(3, .int (ki 1)), (2, .int (kb (-10))), (0, .int x0), (1, .int x1)], h)) rfl ?_
  refine go_ls [(0, .int x0), (1, .int x1), (2, .int (kb (-10))), (3, .int (ki 1))] ⟨rfl, ⟨rfl, ⟨rfl, ⟨rfl, trivial⟩⟩⟩⟩ ?_
  obtain ⟨o4, e5, hF⟩ := mm_bind hF
  refine r_J6_stringSize_0f7a4_L16 hX 1000 x0 x1 (kb (-10)) (ki 1) o4 e5 ?_ ?_
  · intro o4r hr
    subst hr
    dsimp only at hF
    cases hF
    exact hQ
  · intro o4e he
    subst he
    dsimp only at hF
    refine go_adv hX c_257 3 (F2 := (46, [.int ((kb 10) + x1)], [(1, .int x1)], h)) rfl ?_
    cases hF
    exact go_iret hX c_257 rfl rfl rfl hQ
theorem r_J6_stringSize_0f7a4 {X : mm_Cl} (hX : mm_mono X) {d c k : Nat} {Q : mm_Re → Prop} {h : mm_S} {x0 : Int32} {o : Int32} (hF : F_J6_stringSize_0f7a4 h x0 = some o) (hQ : Q (.inl (some (.int o)), h)) : mm_Run X (d + 1) 257 c k [.int x0] h Q := by
  unfold F_J6_stringSize_0f7a4 at hF
  refine mm_Run_in (by decide) (by decide) (Nat.le_of_ble_eq_true rfl) ?_
  show mm_Ex (mm_Run X d) 257 Q (0, [], [(0, .int x0)], h) c k
  refine go_adv hX c_257 3 (F2 := (3, [.int x0], [(1, .int (ki 1)), (0, .int x0)], h)) rfl ?_
  rcases mm_ite hF with ⟨hc1, hF⟩ | ⟨hc1, hF⟩
  · refine go_zt hX 11 c_257 rfl rfl hc1 ?_
    refine go_ls [(0, .int x0), (1, .int (ki 1))] ⟨rfl, ⟨rfl, trivial⟩⟩ ?_
    exact r_J6_stringSize_0f7a4_B11 hX hF hQ
  · refine go_zf hX c_257 rfl (by decide) hc1 ?_
    refine go_adv hX c_257 5 (F2 := (11, [], [(0, .int (-x0)), (1, .int (ki 0))], h)) rfl ?_
    refine go_ls [(0, .int (-x0)), (1, .int (ki 0))] ⟨rfl, ⟨rfl, trivial⟩⟩ ?_
    exact r_J6_stringSize_0f7a4_B11 hX hF hQ
theorem c_254 : mm_cd 254 = k_J5_append_c97b9 := rfl
def F_J5_append_c97b9 (S : Nat → Nat) (h : mm_S) (x0 : Nat) (x1 : Int32) : Option (Nat × mm_S) :=
  (fx_gI h x0 7 3).bind fun v1 =>
  (F_J6_stringSize_0f7a4 h x1).bind fun v3 =>
  (fx_is h x0 7).bind fun _ =>
  (F_J5_ensureCapacityInternal_d00df h x0 (v1 + v3)).bind fun v6 =>
  (fx_is v6 x0 7).bind fun _ =>
  (F_J5_isLatin1_aae02 S v6 x0).bind fun v9 =>
  if v9 = 0 then
    (fx_gR v6 x0 7 0).bind fun v12 =>
    none
  else
    (fx_gR v6 x0 7 0).bind fun v14 =>
    (F_J6_getChars_ba4f3 S v6 x1 (v1 + v3) v14).bind fun v16 =>
    (fx_pV v16.2 x0 7 3 (.int (v1 + v3))).bind fun h18 =>
    some (x0, h18)
theorem r_J5_append_c97b9 {X : mm_Cl} (hX : mm_mono X) {S : Nat → Nat} (hS : mm_XS S X) {d c k : Nat} {Q : mm_Re → Prop} {h : mm_S} {x0 : Nat} {x1 : Int32} {o : (Nat × mm_S)} (hF : F_J5_append_c97b9 S h x0 x1 = some o) (hQ : Q (.inl (some (.ref o.1)), o.2)) : mm_Run X (d + 4) 254 c k [.ref x0, .int x1] h Q := by
  unfold F_J5_append_c97b9 at hF
  refine mm_Run_in (by decide) (by decide) (Nat.le_of_ble_eq_true rfl) ?_
  show mm_Ex (mm_Run X (d + 3)) 254 Q (0, [], [(0, .ref x0), (1, .int x1)], h) c k
  refine go_adv hX c_254 1 (F2 := (1, [.ref x0], [(0, .ref x0), (1, .int x1)], h)) rfl ?_
  obtain ⟨v1, e2, hF⟩ := mm_bind hF
  refine go_gI hX c_254 rfl e2 ?_
  refine go_adv hX c_254 3 (F2 := (7, [.int x1, .int v1], [(2, .int v1), (0, .ref x0), (1, .int x1)], h)) rfl ?_
  obtain ⟨v3, e4, hF⟩ := mm_bind hF
  refine go_cS hX (As := [.int x1]) (rv := some (.int v3)) (h2 := h) c_254 rfl (by decide) (Nat.le_of_ble_eq_true rfl) rfl rfl (Nat.le_of_ble_eq_true rfl) (fun Q2 hQ2 => r_J6_stringSize_0f7a4 hX (d := (d + 2)) e4 hQ2) ?_
  refine go_adv hX c_254 4 (F2 := (14, [.int (v1 + v3), .ref x0], [(3, .int (v1 + v3)), (2, .int v1), (0, .ref x0), (1, .int x1)], h)) rfl ?_
  obtain ⟨_, e5, hF⟩ := mm_bind hF
  obtain ⟨v6, e7, hF⟩ := mm_bind hF
  refine go_cV hX (As := [.int (v1 + v3)]) (rv := none) (h2 := v6) (ci := 7) c_254 rfl (Nat.le_of_ble_eq_true rfl) rfl rfl e5 (by decide) (Nat.le_of_ble_eq_true rfl) (fun Q2 hQ2 => r_J5_ensureCapacityInternal_d00df hX (d := d) e7 hQ2) ?_
  refine go_adv hX c_254 1 (F2 := (18, [.ref x0], [(3, .int (v1 + v3)), (2, .int v1), (0, .ref x0), (1, .int x1)], v6)) rfl ?_
  obtain ⟨_, e8, hF⟩ := mm_bind hF
  obtain ⟨v9, e10, hF⟩ := mm_bind hF
  refine go_cV hX (As := []) (rv := some (.int v9)) (h2 := v6) (ci := 7) c_254 rfl (Nat.le_of_ble_eq_true rfl) rfl rfl e8 (by decide) (Nat.le_of_ble_eq_true rfl) (fun Q2 hQ2 => r_J5_isLatin1_aae02 hX hS (d := (d + 2)) e10 hQ2) ?_
  rcases mm_ite hF with ⟨hc11, hF⟩ | ⟨hc11, hF⟩
  · refine go_zt hX 37 c_254 rfl rfl hc11 ?_
    refine go_adv hX c_254 4 (F2 := (41, [.ref x0, .int (v1 + v3), .int v1, .int x1], [(3, .int (v1 + v3)), (2, .int v1), (0, .ref x0), (1, .int x1)], v6)) rfl ?_
    obtain ⟨v12, e13, hF⟩ := mm_bind hF
    refine go_gR hX c_254 rfl e13 ?_
    cases hF
  · refine go_zf hX c_254 rfl (by decide) hc11 ?_
    refine go_adv hX c_254 3 (F2 := (27, [.ref x0, .int (v1 + v3), .int x1], [(3, .int (v1 + v3)), (2, .int v1), (0, .ref x0), (1, .int x1)], v6)) rfl ?_
    obtain ⟨v14, e15, hF⟩ := mm_bind hF
    refine go_gR hX c_254 rfl e15 ?_
    obtain ⟨v16, e17, hF⟩ := mm_bind hF
    refine go_cS hX (As := [.int x1, .int (v1 + v3), .ref v14]) (rv := some (.int v16.1)) (h2 := v16.2) c_254 rfl (by decide) (Nat.le_of_ble_eq_true rfl) rfl rfl (Nat.le_of_ble_eq_true rfl) (fun Q2 hQ2 => r_J6_getChars_ba4f3 hX hS (d := (d + 2)) e17 hQ2) ?_
    refine go_p hX c_254 rfl rfl rfl ?_
    refine go_to hX 48 c_254 rfl rfl ?_
    refine go_adv hX c_254 2 (F2 := (50, [.int (v1 + v3), .ref x0], [(3, .int (v1 + v3)), (2, .int v1), (0, .ref x0), (1, .int x1)], v16.2)) rfl ?_
    obtain ⟨h18, e19, hF⟩ := mm_bind hF
    refine go_pV hX c_254 rfl e19 ?_
    refine go_adv hX c_254 1 (F2 := (54, [.ref x0], [(3, .int (v1 + v3)), (2, .int v1), (0, .ref x0), (1, .int x1)], h18)) rfl ?_
    cases hF
    exact go_aret hX c_254 rfl rfl (by first | exact Or.inl ⟨_, rfl⟩ | exact Or.inr ⟨_, rfl⟩) hQ
theorem c_243 : mm_cd 243 = k_J4_append_bf812 := rfl
def F_J4_append_bf812 (S : Nat → Nat) (h : mm_S) (x0 : Nat) (x1 : Int32) : Option (Nat × mm_S) :=
  (fx_is h x0 7).bind fun _ =>
  (F_J5_append_c97b9 S h x0 x1).bind fun v2 =>
  some (x0, v2.2)
theorem r_J4_append_bf812 {X : mm_Cl} (hX : mm_mono X) {S : Nat → Nat} (hS : mm_XS S X) {d c k : Nat} {Q : mm_Re → Prop} {h : mm_S} {x0 : Nat} {x1 : Int32} {o : (Nat × mm_S)} (hF : F_J4_append_bf812 S h x0 x1 = some o) (hQ : Q (.inl (some (.ref o.1)), o.2)) : mm_Run X (d + 5) 243 c k [.ref x0, .int x1] h Q := by
  unfold F_J4_append_bf812 at hF
  refine mm_Run_in (by decide) (by decide) (Nat.le_of_ble_eq_true rfl) ?_
  show mm_Ex (mm_Run X (d + 4)) 243 Q (0, [], [(0, .ref x0), (1, .int x1)], h) c k
  refine go_adv hX c_243 2 (F2 := (2, [.int x1, .ref x0], [(0, .ref x0), (1, .int x1)], h)) rfl ?_
  obtain ⟨_, e1, hF⟩ := mm_bind hF
  obtain ⟨v2, e3, hF⟩ := mm_bind hF
  refine go_cSU hX (As := [.int x1]) (rv := some (.ref v2.1)) (h2 := v2.2) (ci := 7) c_243 rfl (by decide) (Nat.le_of_ble_eq_true rfl) rfl rfl e1 (by decide) (Nat.le_of_ble_eq_true rfl) (fun Q2 hQ2 => r_J5_append_c97b9 hX hS (d := d) e3 hQ2) ?_
  refine go_p hX c_243 rfl rfl rfl ?_
  refine go_adv hX c_243 1 (F2 := (7, [.ref x0], [(0, .ref x0), (1, .int x1)], v2.2)) rfl ?_
  cases hF
  exact go_aret hX c_243 rfl rfl (by first | exact Or.inl ⟨_, rfl⟩ | exact Or.inr ⟨_, rfl⟩) hQ
theorem c_102 : mm_cd 102 = k_X5_tellGiant := rfl
def F_X5_tellGiant (S : Nat → Nat) (h : mm_S) (x0 : Nat) (x1 : Int32) : Option ((Int32 ⊕ String) × mm_S) :=
  (F_X5_isGiant h x1).bind fun v1 =>
  if v1 ≠ 0 then
    (fx_gR h x0 5 0).bind fun v4 =>
    (fx_gR h v4 3 0).bind fun v6 =>
    (fx_aR h v6 x1).bind fun v8 =>
    (fx_gR h x0 5 12).bind fun v10 =>
    (fx_is h v10 7).bind fun _ =>
    (F_J4_setLength_d00df S h v10 (ki 0)).bind fun v13 =>
    (fx_gR v13 x0 5 12).bind fun v15 =>
    (fx_is v13 v15 7).bind fun _ =>
    (F_J4_append_bf812 S v13 v15 x1).bind fun v18 =>
    (fx_is v18.2 v18.1 7).bind fun _ =>
    (F_J4_append_cf468 S v18.2 v18.1 (kb 64)).bind fun v21 =>
    (fx_gI v21.2 v8 0 1).bind fun v23 =>
    (fx_is v21.2 v21.1 7).bind fun _ =>
    (F_J4_append_bf812 S v21.2 v21.1 v23).bind fun v26 =>
    (fx_is v26.2 v26.1 7).bind fun _ =>
    (F_J4_append_cf468 S v26.2 v26.1 (kb 36)).bind fun v29 =>
    (fx_gI v29.2 v8 0 0).bind fun v31 =>
    (fx_is v29.2 v29.1 7).bind fun _ =>
    (F_J4_append_bf812 S v29.2 v29.1 v31).bind fun v34 =>
    (fx_gR v34.2 x0 5 0).bind fun v36 =>
    (fx_gI v34.2 v36 3 5).bind fun v38 =>
    if v38 ≠ x1 then
      (fx_gR v34.2 x0 5 12).bind fun v41 =>
      (fx_is v34.2 v41 7).bind fun _ =>
      (F_J4_length_8abf5 v34.2 v41).bind fun v44 =>
      some (.inl v44, v34.2)
    else
      (fx_gR v34.2 x0 5 12).bind fun v46 =>
      (fx_is v34.2 v46 7).bind fun _ =>
      (F_J4_append_cf468 S v34.2 v46 (kb 33)).bind fun v49 =>
      (fx_gR v49.2 x0 5 12).bind fun v51 =>
      (fx_is v49.2 v51 7).bind fun _ =>
      (F_J4_length_8abf5 v49.2 v51).bind fun v54 =>
      some (.inl v54, v49.2)
  else
    some (.inr "java/lang/IndexOutOfBoundsException", h)
theorem r_X5_tellGiant {X : mm_Cl} (hX : mm_mono X) {S : Nat → Nat} (hS : mm_XS S X) {d c k : Nat} {Q : mm_Re → Prop} (hck : 1 ≤ c ∧ 6 ≤ k) {h : mm_S} {x0 : Nat} {x1 : Int32} {o : ((Int32 ⊕ String) × mm_S)} (hF : F_X5_tellGiant S h x0 x1 = some o) (hQ : Q (fx_oI o.1, o.2)) : mm_Run X (d + 6) 102 c k [.ref x0, .int x1] h Q := by
  unfold F_X5_tellGiant at hF
  refine mm_Run_in (by decide) (by decide) (Nat.le_of_ble_eq_true rfl) ?_
  show mm_Ex (mm_Run X (d + 5)) 102 Q (0, [], [(0, .ref x0), (1, .int x1)], h) c k
  refine go_adv hX c_102 1 (F2 := (1, [.int x1], [(0, .ref x0), (1, .int x1)], h)) rfl ?_
  obtain ⟨v1, e2, hF⟩ := mm_bind hF
  refine go_cS hX (As := [.int x1]) (rv := some (.int v1)) (h2 := h) c_102 rfl (by decide) (Nat.le_of_ble_eq_true rfl) rfl rfl (Nat.le_of_ble_eq_true rfl) (fun Q2 hQ2 => r_X5_isGiant hX (d := (d + 3)) e2 hQ2) ?_
  rcases mm_ite hF with ⟨hc3, hF⟩ | ⟨hc3, hF⟩
  · refine go_zt hX 17 c_102 rfl rfl hc3 ?_
    refine go_adv hX c_102 1 (F2 := (18, [.ref x0], [(0, .ref x0), (1, .int x1)], h)) rfl ?_
    obtain ⟨v4, e5, hF⟩ := mm_bind hF
    refine go_gR hX c_102 rfl e5 ?_
    obtain ⟨v6, e7, hF⟩ := mm_bind hF
    refine go_gR hX c_102 rfl e7 ?_
    refine go_adv hX c_102 1 (F2 := (25, [.int x1, .ref v6], [(0, .ref x0), (1, .int x1)], h)) rfl ?_
    obtain ⟨v8, e9, hF⟩ := mm_bind hF
    refine go_aR hX c_102 rfl e9 ?_
    refine go_adv hX c_102 2 (F2 := (28, [.ref x0], [(2, .ref v8), (0, .ref x0), (1, .int x1)], h)) rfl ?_
    obtain ⟨v10, e11, hF⟩ := mm_bind hF
    refine go_gR hX c_102 rfl e11 ?_
    refine go_adv hX c_102 1 (F2 := (32, [.int (ki 0), .ref v10], [(2, .ref v8), (0, .ref x0), (1, .int x1)], h)) rfl ?_
    obtain ⟨_, e12, hF⟩ := mm_bind hF
    obtain ⟨v13, e14, hF⟩ := mm_bind hF
    refine go_cV hX (As := [.int (ki 0)]) (rv := none) (h2 := v13) (ci := 7) c_102 rfl (Nat.le_of_ble_eq_true rfl) rfl rfl e12 (by decide) (Nat.le_of_ble_eq_true rfl) (fun Q2 hQ2 => r_J4_setLength_d00df hX hS (d := d) e14 hQ2) ?_
    refine go_adv hX c_102 1 (F2 := (36, [.ref x0], [(2, .ref v8), (0, .ref x0), (1, .int x1)], v13)) rfl ?_
    obtain ⟨v15, e16, hF⟩ := mm_bind hF
    refine go_gR hX c_102 rfl e16 ?_
    refine go_adv hX c_102 1 (F2 := (40, [.int x1, .ref v15], [(2, .ref v8), (0, .ref x0), (1, .int x1)], v13)) rfl ?_
    obtain ⟨_, e17, hF⟩ := mm_bind hF
    obtain ⟨v18, e19, hF⟩ := mm_bind hF
    refine go_cV hX (As := [.int x1]) (rv := some (.ref v18.1)) (h2 := v18.2) (ci := 7) c_102 rfl (Nat.le_of_ble_eq_true rfl) rfl rfl e17 (by decide) (Nat.le_of_ble_eq_true rfl) (fun Q2 hQ2 => r_J4_append_bf812 hX hS (d := d) e19 hQ2) ?_
    refine go_adv hX c_102 1 (F2 := (45, [.int (kb 64), .ref v18.1], [(2, .ref v8), (0, .ref x0), (1, .int x1)], v18.2)) rfl ?_
    obtain ⟨_, e20, hF⟩ := mm_bind hF
    obtain ⟨v21, e22, hF⟩ := mm_bind hF
    refine go_cV hX (As := [.int (kb 64)]) (rv := some (.ref v21.1)) (h2 := v21.2) (ci := 7) c_102 rfl (Nat.le_of_ble_eq_true rfl) rfl rfl e20 (by decide) (Nat.le_of_ble_eq_true rfl) (fun Q2 hQ2 => r_J4_append_cf468 hX hS (d := d) e22 hQ2) ?_
    refine go_adv hX c_102 1 (F2 := (49, [.ref v8, .ref v21.1], [(2, .ref v8), (0, .ref x0), (1, .int x1)], v21.2)) rfl ?_
    obtain ⟨v23, e24, hF⟩ := mm_bind hF
    refine go_gI hX c_102 rfl e24 ?_
    obtain ⟨_, e25, hF⟩ := mm_bind hF
    obtain ⟨v26, e27, hF⟩ := mm_bind hF
    refine go_cV hX (As := [.int v23]) (rv := some (.ref v26.1)) (h2 := v26.2) (ci := 7) c_102 rfl (Nat.le_of_ble_eq_true rfl) rfl rfl e25 (by decide) (Nat.le_of_ble_eq_true rfl) (fun Q2 hQ2 => r_J4_append_bf812 hX hS (d := d) e27 hQ2) ?_
    refine go_adv hX c_102 1 (F2 := (57, [.int (kb 36), .ref v26.1], [(2, .ref v8), (0, .ref x0), (1, .int x1)], v26.2)) rfl ?_
    obtain ⟨_, e28, hF⟩ := mm_bind hF
    obtain ⟨v29, e30, hF⟩ := mm_bind hF
    refine go_cV hX (As := [.int (kb 36)]) (rv := some (.ref v29.1)) (h2 := v29.2) (ci := 7) c_102 rfl (Nat.le_of_ble_eq_true rfl) rfl rfl e28 (by decide) (Nat.le_of_ble_eq_true rfl) (fun Q2 hQ2 => r_J4_append_cf468 hX hS (d := d) e30 hQ2) ?_
    refine go_adv hX c_102 1 (F2 := (61, [.ref v8, .ref v29.1], [(2, .ref v8), (0, .ref x0), (1, .int x1)], v29.2)) rfl ?_
    obtain ⟨v31, e32, hF⟩ := mm_bind hF
    refine go_gI hX c_102 rfl e32 ?_
    obtain ⟨_, e33, hF⟩ := mm_bind hF
    obtain ⟨v34, e35, hF⟩ := mm_bind hF
    refine go_cV hX (As := [.int v31]) (rv := some (.ref v34.1)) (h2 := v34.2) (ci := 7) c_102 rfl (Nat.le_of_ble_eq_true rfl) rfl rfl e33 (by decide) (Nat.le_of_ble_eq_true rfl) (fun Q2 hQ2 => r_J4_append_bf812 hX hS (d := d) e35 hQ2) ?_
    refine go_p hX c_102 rfl rfl rfl ?_
    refine go_adv hX c_102 1 (F2 := (69, [.ref x0], [(2, .ref v8), (0, .ref x0), (1, .int x1)], v34.2)) rfl ?_
    obtain ⟨v36, e37, hF⟩ := mm_bind hF
    refine go_gR hX c_102 rfl e37 ?_
    obtain ⟨v38, e39, hF⟩ := mm_bind hF
    refine go_gI hX c_102 rfl e39 ?_
    refine go_adv hX c_102 1 (F2 := (76, [.int x1, .int v38], [(2, .ref v8), (0, .ref x0), (1, .int x1)], v34.2)) rfl ?_
    rcases mm_ite hF with ⟨hc40, hF⟩ | ⟨hc40, hF⟩
    · refine go_ct hX 89 c_102 rfl rfl hc40 ?_
      refine go_adv hX c_102 1 (F2 := (90, [.ref x0], [(2, .ref v8), (0, .ref x0), (1, .int x1)], v34.2)) rfl ?_
      obtain ⟨v41, e42, hF⟩ := mm_bind hF
      refine go_gR hX c_102 rfl e42 ?_
      obtain ⟨_, e43, hF⟩ := mm_bind hF
      obtain ⟨v44, e45, hF⟩ := mm_bind hF
      refine go_cV hX (As := []) (rv := some (.int v44)) (h2 := v34.2) (ci := 7) c_102 rfl (Nat.le_of_ble_eq_true rfl) rfl rfl e43 (by decide) (Nat.le_of_ble_eq_true rfl) (fun Q2 hQ2 => r_J4_length_8abf5 hX (d := (d + 3)) e45 hQ2) ?_
      cases hF
      exact go_iret hX c_102 rfl rfl rfl hQ
    · refine go_cf hX c_102 rfl (by decide) hc40 ?_
      refine go_adv hX c_102 1 (F2 := (80, [.ref x0], [(2, .ref v8), (0, .ref x0), (1, .int x1)], v34.2)) rfl ?_
      obtain ⟨v46, e47, hF⟩ := mm_bind hF
      refine go_gR hX c_102 rfl e47 ?_
      refine go_adv hX c_102 1 (F2 := (85, [.int (kb 33), .ref v46], [(2, .ref v8), (0, .ref x0), (1, .int x1)], v34.2)) rfl ?_
      obtain ⟨_, e48, hF⟩ := mm_bind hF
      obtain ⟨v49, e50, hF⟩ := mm_bind hF
      refine go_cV hX (As := [.int (kb 33)]) (rv := some (.ref v49.1)) (h2 := v49.2) (ci := 7) c_102 rfl (Nat.le_of_ble_eq_true rfl) rfl rfl e48 (by decide) (Nat.le_of_ble_eq_true rfl) (fun Q2 hQ2 => r_J4_append_cf468 hX hS (d := d) e50 hQ2) ?_
      refine go_p hX c_102 rfl rfl rfl ?_
      refine go_adv hX c_102 1 (F2 := (90, [.ref x0], [(2, .ref v8), (0, .ref x0), (1, .int x1)], v49.2)) rfl ?_
      obtain ⟨v51, e52, hF⟩ := mm_bind hF
      refine go_gR hX c_102 rfl e52 ?_
      obtain ⟨_, e53, hF⟩ := mm_bind hF
      obtain ⟨v54, e55, hF⟩ := mm_bind hF
      refine go_cV hX (As := []) (rv := some (.int v54)) (h2 := v49.2) (ci := 7) c_102 rfl (Nat.le_of_ble_eq_true rfl) rfl rfl e53 (by decide) (Nat.le_of_ble_eq_true rfl) (fun Q2 hQ2 => r_J4_length_8abf5 hX (d := (d + 3)) e55 hQ2) ?_
      cases hF
      exact go_iret hX c_102 rfl rfl rfl hQ
  · refine go_zf hX c_102 rfl (by decide) hc3 ?_
    cases hF
    exact go_thr hX "java/lang/IndexOutOfBoundsException" c_102 rfl (by decide) rfl (Nat.le_of_ble_eq_true rfl) hck hQ
theorem c_103 : mm_cd 103 = k_X5_tellStair := rfl
def F_X5_tellStair (S : Nat → Nat) (h : mm_S) (x0 : Nat) (x1 : Int32) : Option ((Int32 ⊕ String) × mm_S) :=
  (fx_gR h x0 5 0).bind fun v1 =>
  (fx_is h v1 3).bind fun _ =>
  (F_X3_isStair h v1 x1).bind fun v4 =>
  if v4 ≠ 0 then
    (fx_gR h x0 5 0).bind fun v7 =>
    (fx_gR h v7 3 2).bind fun v9 =>
    (fx_aR h v9 x1).bind fun v11 =>
    (fx_gR h x0 5 12).bind fun v13 =>
    (fx_is h v13 7).bind fun _ =>
    (F_J4_setLength_d00df S h v13 (ki 0)).bind fun v16 =>
    (fx_gR v16 x0 5 12).bind fun v18 =>
    (fx_is v16 v18 7).bind fun _ =>
    (F_J4_append_bf812 S v16 v18 x1).bind fun v21 =>
    (fx_is v21.2 v21.1 7).bind fun _ =>
    (F_J4_append_cf468 S v21.2 v21.1 (kb 58)).bind fun v24 =>
    (fx_gI v24.2 v11 2 0).bind fun v26 =>
    (fx_is v24.2 v24.1 7).bind fun _ =>
    (F_J4_append_bf812 S v24.2 v24.1 v26).bind fun v29 =>
    (fx_gI v29.2 v11 2 1).bind fun v31 =>
    (fx_is v29.2 v29.1 7).bind fun _ =>
    (F_J4_append_bf812 S v29.2 v29.1 v31).bind fun v34 =>
    (fx_gR v34.2 x0 5 12).bind fun v36 =>
    (fx_is v34.2 v36 7).bind fun _ =>
    (F_J4_append_cf468 S v34.2 v36 (kb 94)).bind fun v39 =>
    (fx_gI v39.2 v11 2 2).bind fun v41 =>
    (fx_is v39.2 v39.1 7).bind fun _ =>
    (F_J4_append_bf812 S v39.2 v39.1 v41).bind fun v44 =>
    (fx_is v44.2 v44.1 7).bind fun _ =>
    (F_J4_append_cf468 S v44.2 v44.1 (kb 126)).bind fun v47 =>
    (fx_gI v47.2 v11 2 3).bind fun v49 =>
    (fx_is v47.2 v47.1 7).bind fun _ =>
    (F_J4_append_bf812 S v47.2 v47.1 v49).bind fun v52 =>
    (fx_is v52.2 v11 2).bind fun _ =>
    (F_X2_isLeased v52.2 v11).bind fun v55 =>
    if v55 = 0 then
      (fx_gR v52.2 x0 5 12).bind fun v58 =>
      (fx_is v52.2 v58 7).bind fun _ =>
      (F_J4_length_8abf5 v52.2 v58).bind fun v61 =>
      some (.inl v61, v52.2)
    else
      (fx_gR v52.2 x0 5 12).bind fun v63 =>
      (fx_is v52.2 v63 7).bind fun _ =>
      (F_J4_append_cf468 S v52.2 v63 (kb 61)).bind fun v66 =>
      (fx_gI v66.2 v11 2 5).bind fun v68 =>
      (fx_is v66.2 v66.1 7).bind fun _ =>
      (F_J4_append_bf812 S v66.2 v66.1 v68).bind fun v71 =>
      (fx_is v71.2 v71.1 7).bind fun _ =>
      (F_J4_append_cf468 S v71.2 v71.1 (kb 47)).bind fun v74 =>
      (fx_gI v74.2 v11 2 6).bind fun v76 =>
      (fx_is v74.2 v74.1 7).bind fun _ =>
      (F_J4_append_bf812 S v74.2 v74.1 v76).bind fun v79 =>
      (fx_gR v79.2 x0 5 12).bind fun v81 =>
      (fx_is v79.2 v81 7).bind fun _ =>
      (F_J4_length_8abf5 v79.2 v81).bind fun v84 =>
      some (.inl v84, v79.2)
  else
    some (.inr "java/lang/IndexOutOfBoundsException", h)
theorem r_X5_tellStair {X : mm_Cl} (hX : mm_mono X) {S : Nat → Nat} (hS : mm_XS S X) {d c k : Nat} {Q : mm_Re → Prop} (hck : 1 ≤ c ∧ 6 ≤ k) {h : mm_S} {x0 : Nat} {x1 : Int32} {o : ((Int32 ⊕ String) × mm_S)} (hF : F_X5_tellStair S h x0 x1 = some o) (hQ : Q (fx_oI o.1, o.2)) : mm_Run X (d + 6) 103 c k [.ref x0, .int x1] h Q := by
  unfold F_X5_tellStair at hF
  refine mm_Run_in (by decide) (by decide) (Nat.le_of_ble_eq_true rfl) ?_
  show mm_Ex (mm_Run X (d + 5)) 103 Q (0, [], [(0, .ref x0), (1, .int x1)], h) c k
  refine go_adv hX c_103 1 (F2 := (1, [.ref x0], [(0, .ref x0), (1, .int x1)], h)) rfl ?_
  obtain ⟨v1, e2, hF⟩ := mm_bind hF
  refine go_gR hX c_103 rfl e2 ?_
  refine go_adv hX c_103 1 (F2 := (5, [.int x1, .ref v1], [(0, .ref x0), (1, .int x1)], h)) rfl ?_
  obtain ⟨_, e3, hF⟩ := mm_bind hF
  obtain ⟨v4, e5, hF⟩ := mm_bind hF
  refine go_cV hX (As := [.int x1]) (rv := some (.int v4)) (h2 := h) (ci := 3) c_103 rfl (Nat.le_of_ble_eq_true rfl) rfl rfl e3 (by decide) (Nat.le_of_ble_eq_true rfl) (fun Q2 hQ2 => r_X3_isStair hX (d := (d + 3)) e5 hQ2) ?_
  rcases mm_ite hF with ⟨hc6, hF⟩ | ⟨hc6, hF⟩
  · refine go_zt hX 21 c_103 rfl rfl hc6 ?_
    refine go_adv hX c_103 1 (F2 := (22, [.ref x0], [(0, .ref x0), (1, .int x1)], h)) rfl ?_
    obtain ⟨v7, e8, hF⟩ := mm_bind hF
    refine go_gR hX c_103 rfl e8 ?_
    obtain ⟨v9, e10, hF⟩ := mm_bind hF
    refine go_gR hX c_103 rfl e10 ?_
    refine go_adv hX c_103 1 (F2 := (29, [.int x1, .ref v9], [(0, .ref x0), (1, .int x1)], h)) rfl ?_
    obtain ⟨v11, e12, hF⟩ := mm_bind hF
    refine go_aR hX c_103 rfl e12 ?_
    refine go_adv hX c_103 2 (F2 := (32, [.ref x0], [(2, .ref v11), (0, .ref x0), (1, .int x1)], h)) rfl ?_
    obtain ⟨v13, e14, hF⟩ := mm_bind hF
    refine go_gR hX c_103 rfl e14 ?_
    refine go_adv hX c_103 1 (F2 := (36, [.int (ki 0), .ref v13], [(2, .ref v11), (0, .ref x0), (1, .int x1)], h)) rfl ?_
    obtain ⟨_, e15, hF⟩ := mm_bind hF
    obtain ⟨v16, e17, hF⟩ := mm_bind hF
    refine go_cV hX (As := [.int (ki 0)]) (rv := none) (h2 := v16) (ci := 7) c_103 rfl (Nat.le_of_ble_eq_true rfl) rfl rfl e15 (by decide) (Nat.le_of_ble_eq_true rfl) (fun Q2 hQ2 => r_J4_setLength_d00df hX hS (d := d) e17 hQ2) ?_
    refine go_adv hX c_103 1 (F2 := (40, [.ref x0], [(2, .ref v11), (0, .ref x0), (1, .int x1)], v16)) rfl ?_
    obtain ⟨v18, e19, hF⟩ := mm_bind hF
    refine go_gR hX c_103 rfl e19 ?_
    refine go_adv hX c_103 1 (F2 := (44, [.int x1, .ref v18], [(2, .ref v11), (0, .ref x0), (1, .int x1)], v16)) rfl ?_
    obtain ⟨_, e20, hF⟩ := mm_bind hF
    obtain ⟨v21, e22, hF⟩ := mm_bind hF
    refine go_cV hX (As := [.int x1]) (rv := some (.ref v21.1)) (h2 := v21.2) (ci := 7) c_103 rfl (Nat.le_of_ble_eq_true rfl) rfl rfl e20 (by decide) (Nat.le_of_ble_eq_true rfl) (fun Q2 hQ2 => r_J4_append_bf812 hX hS (d := d) e22 hQ2) ?_
    refine go_adv hX c_103 1 (F2 := (49, [.int (kb 58), .ref v21.1], [(2, .ref v11), (0, .ref x0), (1, .int x1)], v21.2)) rfl ?_
    obtain ⟨_, e23, hF⟩ := mm_bind hF
    obtain ⟨v24, e25, hF⟩ := mm_bind hF
    refine go_cV hX (As := [.int (kb 58)]) (rv := some (.ref v24.1)) (h2 := v24.2) (ci := 7) c_103 rfl (Nat.le_of_ble_eq_true rfl) rfl rfl e23 (by decide) (Nat.le_of_ble_eq_true rfl) (fun Q2 hQ2 => r_J4_append_cf468 hX hS (d := d) e25 hQ2) ?_
    refine go_adv hX c_103 1 (F2 := (53, [.ref v11, .ref v24.1], [(2, .ref v11), (0, .ref x0), (1, .int x1)], v24.2)) rfl ?_
    obtain ⟨v26, e27, hF⟩ := mm_bind hF
    refine go_gI hX c_103 rfl e27 ?_
    obtain ⟨_, e28, hF⟩ := mm_bind hF
    obtain ⟨v29, e30, hF⟩ := mm_bind hF
    refine go_cV hX (As := [.int v26]) (rv := some (.ref v29.1)) (h2 := v29.2) (ci := 7) c_103 rfl (Nat.le_of_ble_eq_true rfl) rfl rfl e28 (by decide) (Nat.le_of_ble_eq_true rfl) (fun Q2 hQ2 => r_J4_append_bf812 hX hS (d := d) e30 hQ2) ?_
    refine go_adv hX c_103 1 (F2 := (60, [.ref v11, .ref v29.1], [(2, .ref v11), (0, .ref x0), (1, .int x1)], v29.2)) rfl ?_
    obtain ⟨v31, e32, hF⟩ := mm_bind hF
    refine go_gI hX c_103 rfl e32 ?_
    obtain ⟨_, e33, hF⟩ := mm_bind hF
    obtain ⟨v34, e35, hF⟩ := mm_bind hF
    refine go_cV hX (As := [.int v31]) (rv := some (.ref v34.1)) (h2 := v34.2) (ci := 7) c_103 rfl (Nat.le_of_ble_eq_true rfl) rfl rfl e33 (by decide) (Nat.le_of_ble_eq_true rfl) (fun Q2 hQ2 => r_J4_append_bf812 hX hS (d := d) e35 hQ2) ?_
    refine go_p hX c_103 rfl rfl rfl ?_
    refine go_adv hX c_103 1 (F2 := (68, [.ref x0], [(2, .ref v11), (0, .ref x0), (1, .int x1)], v34.2)) rfl ?_
    obtain ⟨v36, e37, hF⟩ := mm_bind hF
    refine go_gR hX c_103 rfl e37 ?_
    refine go_adv hX c_103 1 (F2 := (73, [.int (kb 94), .ref v36], [(2, .ref v11), (0, .ref x0), (1, .int x1)], v34.2)) rfl ?_
    obtain ⟨_, e38, hF⟩ := mm_bind hF
    obtain ⟨v39, e40, hF⟩ := mm_bind hF
    refine go_cV hX (As := [.int (kb 94)]) (rv := some (.ref v39.1)) (h2 := v39.2) (ci := 7) c_103 rfl (Nat.le_of_ble_eq_true rfl) rfl rfl e38 (by decide) (Nat.le_of_ble_eq_true rfl) (fun Q2 hQ2 => r_J4_append_cf468 hX hS (d := d) e40 hQ2) ?_
    refine go_adv hX c_103 1 (F2 := (77, [.ref v11, .ref v39.1], [(2, .ref v11), (0, .ref x0), (1, .int x1)], v39.2)) rfl ?_
    obtain ⟨v41, e42, hF⟩ := mm_bind hF
    refine go_gI hX c_103 rfl e42 ?_
    obtain ⟨_, e43, hF⟩ := mm_bind hF
    obtain ⟨v44, e45, hF⟩ := mm_bind hF
    refine go_cV hX (As := [.int v41]) (rv := some (.ref v44.1)) (h2 := v44.2) (ci := 7) c_103 rfl (Nat.le_of_ble_eq_true rfl) rfl rfl e43 (by decide) (Nat.le_of_ble_eq_true rfl) (fun Q2 hQ2 => r_J4_append_bf812 hX hS (d := d) e45 hQ2) ?_
    refine go_adv hX c_103 1 (F2 := (85, [.int (kb 126), .ref v44.1], [(2, .ref v11), (0, .ref x0), (1, .int x1)], v44.2)) rfl ?_
    obtain ⟨_, e46, hF⟩ := mm_bind hF
    obtain ⟨v47, e48, hF⟩ := mm_bind hF
    refine go_cV hX (As := [.int (kb 126)]) (rv := some (.ref v47.1)) (h2 := v47.2) (ci := 7) c_103 rfl (Nat.le_of_ble_eq_true rfl) rfl rfl e46 (by decide) (Nat.le_of_ble_eq_true rfl) (fun Q2 hQ2 => r_J4_append_cf468 hX hS (d := d) e48 hQ2) ?_
    refine go_adv hX c_103 1 (F2 := (89, [.ref v11, .ref v47.1], [(2, .ref v11), (0, .ref x0), (1, .int x1)], v47.2)) rfl ?_
    obtain ⟨v49, e50, hF⟩ := mm_bind hF
    refine go_gI hX c_103 rfl e50 ?_
    obtain ⟨_, e51, hF⟩ := mm_bind hF
    obtain ⟨v52, e53, hF⟩ := mm_bind hF
    refine go_cV hX (As := [.int v49]) (rv := some (.ref v52.1)) (h2 := v52.2) (ci := 7) c_103 rfl (Nat.le_of_ble_eq_true rfl) rfl rfl e51 (by decide) (Nat.le_of_ble_eq_true rfl) (fun Q2 hQ2 => r_J4_append_bf812 hX hS (d := d) e53 hQ2) ?_
    refine go_p hX c_103 rfl rfl rfl ?_
    refine go_adv hX c_103 1 (F2 := (97, [.ref v11], [(2, .ref v11), (0, .ref x0), (1, .int x1)], v52.2)) rfl ?_
    obtain ⟨_, e54, hF⟩ := mm_bind hF
    obtain ⟨v55, e56, hF⟩ := mm_bind hF
    refine go_cV hX (As := []) (rv := some (.int v55)) (h2 := v52.2) (ci := 2) c_103 rfl (Nat.le_of_ble_eq_true rfl) rfl rfl e54 (by decide) (Nat.le_of_ble_eq_true rfl) (fun Q2 hQ2 => r_X2_isLeased hX (d := (d + 2)) e56 hQ2) ?_
    rcases mm_ite hF with ⟨hc57, hF⟩ | ⟨hc57, hF⟩
    · refine go_zt hX 132 c_103 rfl rfl hc57 ?_
      refine go_adv hX c_103 1 (F2 := (133, [.ref x0], [(2, .ref v11), (0, .ref x0), (1, .int x1)], v52.2)) rfl ?_
      obtain ⟨v58, e59, hF⟩ := mm_bind hF
      refine go_gR hX c_103 rfl e59 ?_
      obtain ⟨_, e60, hF⟩ := mm_bind hF
      obtain ⟨v61, e62, hF⟩ := mm_bind hF
      refine go_cV hX (As := []) (rv := some (.int v61)) (h2 := v52.2) (ci := 7) c_103 rfl (Nat.le_of_ble_eq_true rfl) rfl rfl e60 (by decide) (Nat.le_of_ble_eq_true rfl) (fun Q2 hQ2 => r_J4_length_8abf5 hX (d := (d + 3)) e62 hQ2) ?_
      cases hF
      exact go_iret hX c_103 rfl rfl rfl hQ
    · refine go_zf hX c_103 rfl (by decide) hc57 ?_
      refine go_adv hX c_103 1 (F2 := (104, [.ref x0], [(2, .ref v11), (0, .ref x0), (1, .int x1)], v52.2)) rfl ?_
      obtain ⟨v63, e64, hF⟩ := mm_bind hF
      refine go_gR hX c_103 rfl e64 ?_
      refine go_adv hX c_103 1 (F2 := (109, [.int (kb 61), .ref v63], [(2, .ref v11), (0, .ref x0), (1, .int x1)], v52.2)) rfl ?_
      obtain ⟨_, e65, hF⟩ := mm_bind hF
      obtain ⟨v66, e67, hF⟩ := mm_bind hF
      refine go_cV hX (As := [.int (kb 61)]) (rv := some (.ref v66.1)) (h2 := v66.2) (ci := 7) c_103 rfl (Nat.le_of_ble_eq_true rfl) rfl rfl e65 (by decide) (Nat.le_of_ble_eq_true rfl) (fun Q2 hQ2 => r_J4_append_cf468 hX hS (d := d) e67 hQ2) ?_
      refine go_adv hX c_103 1 (F2 := (113, [.ref v11, .ref v66.1], [(2, .ref v11), (0, .ref x0), (1, .int x1)], v66.2)) rfl ?_
      obtain ⟨v68, e69, hF⟩ := mm_bind hF
      refine go_gI hX c_103 rfl e69 ?_
      obtain ⟨_, e70, hF⟩ := mm_bind hF
      obtain ⟨v71, e72, hF⟩ := mm_bind hF
      refine go_cV hX (As := [.int v68]) (rv := some (.ref v71.1)) (h2 := v71.2) (ci := 7) c_103 rfl (Nat.le_of_ble_eq_true rfl) rfl rfl e70 (by decide) (Nat.le_of_ble_eq_true rfl) (fun Q2 hQ2 => r_J4_append_bf812 hX hS (d := d) e72 hQ2) ?_
      refine go_adv hX c_103 1 (F2 := (121, [.int (kb 47), .ref v71.1], [(2, .ref v11), (0, .ref x0), (1, .int x1)], v71.2)) rfl ?_
      obtain ⟨_, e73, hF⟩ := mm_bind hF
      obtain ⟨v74, e75, hF⟩ := mm_bind hF
      refine go_cV hX (As := [.int (kb 47)]) (rv := some (.ref v74.1)) (h2 := v74.2) (ci := 7) c_103 rfl (Nat.le_of_ble_eq_true rfl) rfl rfl e73 (by decide) (Nat.le_of_ble_eq_true rfl) (fun Q2 hQ2 => r_J4_append_cf468 hX hS (d := d) e75 hQ2) ?_
      refine go_adv hX c_103 1 (F2 := (125, [.ref v11, .ref v74.1], [(2, .ref v11), (0, .ref x0), (1, .int x1)], v74.2)) rfl ?_
      obtain ⟨v76, e77, hF⟩ := mm_bind hF
      refine go_gI hX c_103 rfl e77 ?_
      obtain ⟨_, e78, hF⟩ := mm_bind hF
      obtain ⟨v79, e80, hF⟩ := mm_bind hF
      refine go_cV hX (As := [.int v76]) (rv := some (.ref v79.1)) (h2 := v79.2) (ci := 7) c_103 rfl (Nat.le_of_ble_eq_true rfl) rfl rfl e78 (by decide) (Nat.le_of_ble_eq_true rfl) (fun Q2 hQ2 => r_J4_append_bf812 hX hS (d := d) e80 hQ2) ?_
      refine go_p hX c_103 rfl rfl rfl ?_
      refine go_adv hX c_103 1 (F2 := (133, [.ref x0], [(2, .ref v11), (0, .ref x0), (1, .int x1)], v79.2)) rfl ?_
      obtain ⟨v81, e82, hF⟩ := mm_bind hF
      refine go_gR hX c_103 rfl e82 ?_
      obtain ⟨_, e83, hF⟩ := mm_bind hF
      obtain ⟨v84, e85, hF⟩ := mm_bind hF
      refine go_cV hX (As := []) (rv := some (.int v84)) (h2 := v79.2) (ci := 7) c_103 rfl (Nat.le_of_ble_eq_true rfl) rfl rfl e83 (by decide) (Nat.le_of_ble_eq_true rfl) (fun Q2 hQ2 => r_J4_length_8abf5 hX (d := (d + 3)) e85 hQ2) ?_
      cases hF
      exact go_iret hX c_103 rfl rfl rfl hQ
  · refine go_zf hX c_103 rfl (by decide) hc6 ?_
    cases hF
    exact go_thr hX "java/lang/IndexOutOfBoundsException" c_103 rfl (by decide) rfl (Nat.le_of_ble_eq_true rfl) hck hQ
theorem c_104 : mm_cd 104 = k_X5_tellLandings := rfl
def F_X5_tellLandings_L10 (S : Nat → Nat) : Nat → Nat → Int32 → mm_S → Option mm_S
  | 0, _, _, _ => none
  | n + 1, x0, x1, h =>
    if (kb 8) ≤ x1 then
      some h
    else
      (fx_gR h x0 5 0).bind fun v7 =>
      (fx_gR h v7 3 1).bind fun v9 =>
      (fx_aI h v9 x1).bind fun v11 =>
      if v11 ≠ (ki 2) then
        (fx_gR h x0 5 12).bind fun v14 =>
        (fx_gR h x0 5 0).bind fun v16 =>
        (fx_gR h v16 3 1).bind fun v18 =>
        (fx_aI h v18 x1).bind fun v20 =>
        (fx_is h v14 7).bind fun _ =>
        (F_J4_append_bf812 S h v14 v20).bind fun v23 =>
        F_X5_tellLandings_L10 S n x0 (x1 + ki 1) v23.2
      else
        (fx_gR h x0 5 12).bind fun v25 =>
        (fx_is h v25 7).bind fun _ =>
        (F_J4_append_cf468 S h v25 (kb 46)).bind fun v28 =>
        F_X5_tellLandings_L10 S n x0 (x1 + ki 1) v28.2
def F_X5_tellLandings (S : Nat → Nat) (h : mm_S) (x0 : Nat) : Option (Int32 × mm_S) :=
  (fx_gR h x0 5 12).bind fun v1 =>
  (fx_is h v1 7).bind fun _ =>
  (F_J4_setLength_d00df S h v1 (ki 0)).bind fun v4 =>
  (F_X5_tellLandings_L10 S 1000 x0 (ki 0) v4).bind fun o30 =>
  (fx_gR o30 x0 5 12).bind fun v32 =>
  (fx_is o30 v32 7).bind fun _ =>
  (F_J4_length_8abf5 o30 v32).bind fun v35 =>
  some (v35, o30)
theorem r_X5_tellLandings_L10 {X : mm_Cl} (hX : mm_mono X) {S : Nat → Nat} (hS : mm_XS S X) {d c k : Nat} {Q : mm_Re → Prop} : ∀ (n : Nat) (x0 : Nat) (x1 : Int32) (h : mm_S) (o : mm_S), F_X5_tellLandings_L10 S n x0 x1 h = some o → (mm_Ex (mm_Run X (d + 5)) 104 Q (65, [], [(0, .ref x0)], o) c k) → mm_Ex (mm_Run X (d + 5)) 104 Q (10, [], [(0, .ref x0), (1, .int x1)], h) c k := by
  intro n
  induction n with
  | zero => intro x0 x1 h o hF; cases hF
  | succ n ih =>
    intro x0 x1 h o hF hE
    unfold F_X5_tellLandings_L10 at hF
    refine go_adv hX c_104 2 (F2 := (13, [.int (kb 8), .int x1], [(0, .ref x0), (1, .int x1)], h)) rfl ?_
    rcases mm_ite hF with ⟨hc6, hF⟩ | ⟨hc6, hF⟩
    · refine go_ct hX 65 c_104 rfl rfl hc6 ?_
      cases hF
      refine go_ls [(0, .ref x0)] ⟨rfl, trivial⟩ ?_
      exact hE
    · refine go_cf hX c_104 rfl (by decide) hc6 ?_
      refine go_adv hX c_104 1 (F2 := (17, [.ref x0], [(0, .ref x0), (1, .int x1)], h)) rfl ?_
      obtain ⟨v7, e8, hF⟩ := mm_bind hF
      refine go_gR hX c_104 rfl e8 ?_
      obtain ⟨v9, e10, hF⟩ := mm_bind hF
      refine go_gR hX c_104 rfl e10 ?_
      refine go_adv hX c_104 1 (F2 := (24, [.int x1, .ref v9], [(0, .ref x0), (1, .int x1)], h)) rfl ?_
      obtain ⟨v11, e12, hF⟩ := mm_bind hF
      refine go_aI hX c_104 rfl e12 ?_
      refine go_adv hX c_104 1 (F2 := (26, [.int (ki 2), .int v11], [(0, .ref x0), (1, .int x1)], h)) rfl ?_
      rcases mm_ite hF with ⟨hc13, hF⟩ | ⟨hc13, hF⟩
      · refine go_ct hX 42 c_104 rfl rfl hc13 ?_
        refine go_adv hX c_104 1 (F2 := (43, [.ref x0], [(0, .ref x0), (1, .int x1)], h)) rfl ?_
        obtain ⟨v14, e15, hF⟩ := mm_bind hF
        refine go_gR hX c_104 rfl e15 ?_
        refine go_adv hX c_104 1 (F2 := (47, [.ref x0, .ref v14], [(0, .ref x0), (1, .int x1)], h)) rfl ?_
        obtain ⟨v16, e17, hF⟩ := mm_bind hF
        refine go_gR hX c_104 rfl e17 ?_
        obtain ⟨v18, e19, hF⟩ := mm_bind hF
        refine go_gR hX c_104 rfl e19 ?_
        refine go_adv hX c_104 1 (F2 := (54, [.int x1, .ref v18, .ref v14], [(0, .ref x0), (1, .int x1)], h)) rfl ?_
        obtain ⟨v20, e21, hF⟩ := mm_bind hF
        refine go_aI hX c_104 rfl e21 ?_
        obtain ⟨_, e22, hF⟩ := mm_bind hF
        obtain ⟨v23, e24, hF⟩ := mm_bind hF
        refine go_cV hX (As := [.int v20]) (rv := some (.ref v23.1)) (h2 := v23.2) (ci := 7) c_104 rfl (Nat.le_of_ble_eq_true rfl) rfl rfl e22 (by decide) (Nat.le_of_ble_eq_true rfl) (fun Q2 hQ2 => r_J4_append_bf812 hX hS (d := d) e24 hQ2) ?_
        refine go_p hX c_104 rfl rfl rfl ?_
        refine go_adv hX c_104 1 (F2 := (62, [], [(1, .int (x1 + ki 1)), (0, .ref x0)], v23.2)) rfl ?_
        refine go_to hX 10 c_104 rfl rfl ?_
        refine go_ls [(0, .ref x0), (1, .int (x1 + ki 1))] ⟨rfl, ⟨rfl, trivial⟩⟩ ?_
        exact ih x0 (x1 + ki 1) v23.2 _ hF hE
      · refine go_cf hX c_104 rfl (by decide) hc13 ?_
        refine go_adv hX c_104 1 (F2 := (30, [.ref x0], [(0, .ref x0), (1, .int x1)], h)) rfl ?_
        obtain ⟨v25, e26, hF⟩ := mm_bind hF
        refine go_gR hX c_104 rfl e26 ?_
        refine go_adv hX c_104 1 (F2 := (35, [.int (kb 46), .ref v25], [(0, .ref x0), (1, .int x1)], h)) rfl ?_
        obtain ⟨_, e27, hF⟩ := mm_bind hF
        obtain ⟨v28, e29, hF⟩ := mm_bind hF
        refine go_cV hX (As := [.int (kb 46)]) (rv := some (.ref v28.1)) (h2 := v28.2) (ci := 7) c_104 rfl (Nat.le_of_ble_eq_true rfl) rfl rfl e27 (by decide) (Nat.le_of_ble_eq_true rfl) (fun Q2 hQ2 => r_J4_append_cf468 hX hS (d := d) e29 hQ2) ?_
        refine go_p hX c_104 rfl rfl rfl ?_
        refine go_to hX 59 c_104 rfl rfl ?_
        refine go_adv hX c_104 1 (F2 := (62, [], [(1, .int (x1 + ki 1)), (0, .ref x0)], v28.2)) rfl ?_
        refine go_to hX 10 c_104 rfl rfl ?_
        refine go_ls [(0, .ref x0), (1, .int (x1 + ki 1))] ⟨rfl, ⟨rfl, trivial⟩⟩ ?_
        exact ih x0 (x1 + ki 1) v28.2 _ hF hE
theorem r_X5_tellLandings {X : mm_Cl} (hX : mm_mono X) {S : Nat → Nat} (hS : mm_XS S X) {d c k : Nat} {Q : mm_Re → Prop} {h : mm_S} {x0 : Nat} {o : (Int32 × mm_S)} (hF : F_X5_tellLandings S h x0 = some o) (hQ : Q (.inl (some (.int o.1)), o.2)) : mm_Run X (d + 6) 104 c k [.ref x0] h Q := by
  unfold F_X5_tellLandings at hF
  refine mm_Run_in (by decide) (by decide) (Nat.le_of_ble_eq_true rfl) ?_
  show mm_Ex (mm_Run X (d + 5)) 104 Q (0, [], [(0, .ref x0)], h) c k
  refine go_adv hX c_104 1 (F2 := (1, [.ref x0], [(0, .ref x0)], h)) rfl ?_
  obtain ⟨v1, e2, hF⟩ := mm_bind hF
  refine go_gR hX c_104 rfl e2 ?_
  refine go_adv hX c_104 1 (F2 := (5, [.int (ki 0), .ref v1], [(0, .ref x0)], h)) rfl ?_
  obtain ⟨_, e3, hF⟩ := mm_bind hF
  obtain ⟨v4, e5, hF⟩ := mm_bind hF
  refine go_cV hX (As := [.int (ki 0)]) (rv := none) (h2 := v4) (ci := 7) c_104 rfl (Nat.le_of_ble_eq_true rfl) rfl rfl e3 (by decide) (Nat.le_of_ble_eq_true rfl) (fun Q2 hQ2 => r_J4_setLength_d00df hX hS (d := d) e5 hQ2) ?_
  refine go_adv hX c_104 2 (F2 := (10, [], [(1, .int (ki 0)), (0, .ref x0)], v4)) rfl ?_
  refine go_ls [(0, .ref x0), (1, .int (ki 0))] ⟨rfl, ⟨rfl, trivial⟩⟩ ?_
  obtain ⟨o30, e31, hF⟩ := mm_bind hF
  refine r_X5_tellLandings_L10 hX hS 1000 x0 (ki 0) v4 o30 e31 ?_
  refine go_adv hX c_104 1 (F2 := (66, [.ref x0], [(0, .ref x0)], o30)) rfl ?_
  obtain ⟨v32, e33, hF⟩ := mm_bind hF
  refine go_gR hX c_104 rfl e33 ?_
  obtain ⟨_, e34, hF⟩ := mm_bind hF
  obtain ⟨v35, e36, hF⟩ := mm_bind hF
  refine go_cV hX (As := []) (rv := some (.int v35)) (h2 := o30) (ci := 7) c_104 rfl (Nat.le_of_ble_eq_true rfl) rfl rfl e34 (by decide) (Nat.le_of_ble_eq_true rfl) (fun Q2 hQ2 => r_J4_length_8abf5 hX (d := (d + 3)) e36 hQ2) ?_
  cases hF
  exact go_iret hX c_104 rfl rfl rfl hQ
theorem c_105 : mm_cd 105 = k_X5_character := rfl
def F_X5_character (S : Nat → Nat) (h : mm_S) (x0 : Nat) (x1 : Int32) : Option (Int32 ⊕ String) :=
  if x1 < 0 then
    some (.inr "java/lang/IndexOutOfBoundsException")
  else
    (fx_gR h x0 5 12).bind fun v2 =>
    (fx_is h v2 7).bind fun _ =>
    (F_J4_length_8abf5 h v2).bind fun v5 =>
    if x1 < v5 then
      (fx_gR h x0 5 12).bind fun v8 =>
      (fx_is h v8 7).bind fun _ =>
      (F_J4_charAt_5068e S h v8 x1).bind fun v11 =>
      (fx_nar .char v11).bind fun v13 =>
      some (.inl v13)
    else
      some (.inr "java/lang/IndexOutOfBoundsException")
theorem r_X5_character {X : mm_Cl} (hX : mm_mono X) {S : Nat → Nat} (hS : mm_XS S X) {d c k : Nat} {Q : mm_Re → Prop} (hck : 1 ≤ c ∧ 6 ≤ k) {h : mm_S} {x0 : Nat} {x1 : Int32} {o : (Int32 ⊕ String)} (hF : F_X5_character S h x0 x1 = some o) (hQ : Q (fx_oI o, h)) : mm_Run X (d + 4) 105 c k [.ref x0, .int x1] h Q := by
  unfold F_X5_character at hF
  refine mm_Run_in (by decide) (by decide) (Nat.le_of_ble_eq_true rfl) ?_
  show mm_Ex (mm_Run X (d + 3)) 105 Q (0, [], [(0, .ref x0), (1, .int x1)], h) c k
  refine go_adv hX c_105 1 (F2 := (1, [.int x1], [(0, .ref x0), (1, .int x1)], h)) rfl ?_
  rcases mm_ite hF with ⟨hc1, hF⟩ | ⟨hc1, hF⟩
  · refine go_zt hX 15 c_105 rfl rfl hc1 ?_
    cases hF
    exact go_thr hX "java/lang/IndexOutOfBoundsException" c_105 rfl (by decide) rfl (Nat.le_of_ble_eq_true rfl) hck hQ
  · refine go_zf hX c_105 rfl (by decide) hc1 ?_
    refine go_adv hX c_105 2 (F2 := (6, [.ref x0, .int x1], [(0, .ref x0), (1, .int x1)], h)) rfl ?_
    obtain ⟨v2, e3, hF⟩ := mm_bind hF
    refine go_gR hX c_105 rfl e3 ?_
    obtain ⟨_, e4, hF⟩ := mm_bind hF
    obtain ⟨v5, e6, hF⟩ := mm_bind hF
    refine go_cV hX (As := []) (rv := some (.int v5)) (h2 := h) (ci := 7) c_105 rfl (Nat.le_of_ble_eq_true rfl) rfl rfl e4 (by decide) (Nat.le_of_ble_eq_true rfl) (fun Q2 hQ2 => r_J4_length_8abf5 hX (d := (d + 1)) e6 hQ2) ?_
    rcases mm_ite hF with ⟨hc7, hF⟩ | ⟨hc7, hF⟩
    · refine go_ct hX 26 c_105 rfl rfl hc7 ?_
      refine go_adv hX c_105 1 (F2 := (27, [.ref x0], [(0, .ref x0), (1, .int x1)], h)) rfl ?_
      obtain ⟨v8, e9, hF⟩ := mm_bind hF
      refine go_gR hX c_105 rfl e9 ?_
      refine go_adv hX c_105 1 (F2 := (31, [.int x1, .ref v8], [(0, .ref x0), (1, .int x1)], h)) rfl ?_
      obtain ⟨_, e10, hF⟩ := mm_bind hF
      obtain ⟨v11, e12, hF⟩ := mm_bind hF
      refine go_cV hX (As := [.int x1]) (rv := some (.int v11)) (h2 := h) (ci := 7) c_105 rfl (Nat.le_of_ble_eq_true rfl) rfl rfl e10 (by decide) (Nat.le_of_ble_eq_true rfl) (fun Q2 hQ2 => r_J4_charAt_5068e hX hS (d := d) e12 hQ2) ?_
      obtain ⟨v13, e14, hF⟩ := mm_bind hF
      obtain ⟨rfl, e14n⟩ := fx_nar_s e14
      cases hF
      exact go_iret hX c_105 rfl rfl e14n hQ
    · refine go_cf hX c_105 rfl (by decide) hc7 ?_
      cases hF
      exact go_thr hX "java/lang/IndexOutOfBoundsException" c_105 rfl (by decide) rfl (Nat.le_of_ble_eq_true rfl) hck hQ
theorem c_106 : mm_cd 106 = k_X5_account := rfl
def F_X5_account (h : mm_S) (x0 : Nat) (x1 : Int32) : Option (Int32 ⊕ String) :=
  if x1 = nI 0 then
    (fx_gR h x0 5 0).bind fun v2 =>
    (fx_gI h v2 3 3).bind fun v4 =>
    some (.inl v4)
  else if x1 = nI 1 then
    (fx_gR h x0 5 0).bind fun v7 =>
    (fx_is h v7 3).bind fun _ =>
    (F_X3_landingsOf h v7 (ki 2)).bind fun v10 =>
    some (.inl v10)
  else if x1 = nI 2 then
    (fx_gR h x0 5 0).bind fun v13 =>
    (fx_gI h v13 3 4).bind fun v15 =>
    some (.inl v15)
  else if x1 = nI 3 then
    (fx_gR h x0 5 0).bind fun v18 =>
    (fx_gI h v18 3 6).bind fun v20 =>
    some (.inl v20)
  else if x1 = nI 4 then
    (fx_gR h x0 5 0).bind fun v23 =>
    (fx_is h v23 3).bind fun _ =>
    (F_X3_leasesOf h v23 (ki 0)).bind fun v26 =>
    (fx_gR h x0 5 0).bind fun v28 =>
    (fx_is h v28 3).bind fun _ =>
    (F_X3_leasesOf h v28 (ki 1)).bind fun v31 =>
    some (.inl (v26 + v31))
  else if x1 = nI 5 then
    (fx_gR h x0 5 0).bind fun v34 =>
    (fx_is h v34 3).bind fun _ =>
    (F_X3_dustOnAll h v34).bind fun v37 =>
    some (.inl v37)
  else if x1 = nI 6 then
    (fx_gR h x0 5 0).bind fun v40 =>
    (fx_gR h v40 3 0).bind fun v42 =>
    (fx_aR h v42 (ki 0)).bind fun v44 =>
    (fx_gI h v44 0 3).bind fun v46 =>
    (fx_gR h x0 5 0).bind fun v48 =>
    (fx_gR h v48 3 0).bind fun v50 =>
    (fx_aR h v50 (ki 1)).bind fun v52 =>
    (fx_gI h v52 0 3).bind fun v54 =>
    some (.inl (v46 + v54))
  else if x1 = nI 7 then
    (fx_gR h x0 5 0).bind fun v57 =>
    (fx_gI h v57 3 7).bind fun v59 =>
    some (.inl v59)
  else if x1 = nI 8 then
    (fx_gR h x0 5 0).bind fun v62 =>
    (fx_gR h v62 3 0).bind fun v64 =>
    (fx_aR h v64 (ki 0)).bind fun v66 =>
    (fx_gI h v66 0 4).bind fun v68 =>
    (fx_gR h x0 5 0).bind fun v70 =>
    (fx_gR h v70 3 0).bind fun v72 =>
    (fx_aR h v72 (ki 1)).bind fun v74 =>
    (fx_gI h v74 0 4).bind fun v76 =>
    some (.inl (v68 + v76))
  else if x1 = nI 9 then
    (fx_gR h x0 5 0).bind fun v79 =>
    (fx_gR h v79 3 0).bind fun v81 =>
    (fx_aR h v81 (ki 0)).bind fun v83 =>
    (fx_gI h v83 0 2).bind fun v85 =>
    (fx_gR h x0 5 0).bind fun v87 =>
    (fx_gR h v87 3 0).bind fun v89 =>
    (fx_aR h v89 (ki 1)).bind fun v91 =>
    (fx_gI h v91 0 2).bind fun v93 =>
    some (.inl (v85 + v93))
  else if x1 = nI 10 then
    (fx_gR h x0 5 0).bind fun v96 =>
    (fx_gI h v96 3 8).bind fun v98 =>
    some (.inl v98)
  else if x1 = nI 11 then
    (fx_gR h x0 5 0).bind fun v101 =>
    (fx_gI h v101 3 9).bind fun v103 =>
    some (.inl v103)
  else if x1 = nI 12 then
    (fx_gR h x0 5 8).bind fun v106 =>
    (fx_gR h v106 1 0).bind fun v108 =>
    (fx_is h v108 7).bind fun _ =>
    (F_J4_length_8abf5 h v108).bind fun v111 =>
    some (.inl v111)
  else if x1 = nI 13 then
    (fx_gI h x0 5 5).bind fun v114 =>
    some (.inl v114)
  else
    some (.inr "java/lang/IllegalArgumentException")
theorem r_X5_account {X : mm_Cl} (hX : mm_mono X) {d c k : Nat} {Q : mm_Re → Prop} (hck : 1 ≤ c ∧ 6 ≤ k) {h : mm_S} {x0 : Nat} {x1 : Int32} {o : (Int32 ⊕ String)} (hF : F_X5_account h x0 x1 = some o) (hQ : Q (fx_oI o, h)) : mm_Run X (d + 3) 106 c k [.ref x0, .int x1] h Q := by
  unfold F_X5_account at hF
  refine mm_Run_in (by decide) (by decide) (Nat.le_of_ble_eq_true rfl) ?_
  show mm_Ex (mm_Run X (d + 2)) 106 Q (0, [], [(0, .ref x0), (1, .int x1)], h) c k
  refine go_adv hX c_106 1 (F2 := (1, [.int x1], [(0, .ref x0), (1, .int x1)], h)) rfl ?_
  rcases mm_ite hF with ⟨hc1, hF⟩ | ⟨hc1, hF⟩
  · refine go_sw hX 72 c_106 rfl hc1 (by decide) (by decide +kernel) ?_
    refine go_adv hX c_106 1 (F2 := (73, [.ref x0], [(0, .ref x0), (1, .int x1)], h)) rfl ?_
    obtain ⟨v2, e3, hF⟩ := mm_bind hF
    refine go_gR hX c_106 rfl e3 ?_
    obtain ⟨v4, e5, hF⟩ := mm_bind hF
    refine go_gI hX c_106 rfl e5 ?_
    cases hF
    exact go_iret hX c_106 rfl rfl rfl hQ
  rcases mm_ite hF with ⟨hc6, hF⟩ | ⟨hc6, hF⟩
  · refine go_sw hX 80 c_106 rfl hc6 (by decide) (by decide +kernel) ?_
    refine go_adv hX c_106 1 (F2 := (81, [.ref x0], [(0, .ref x0), (1, .int x1)], h)) rfl ?_
    obtain ⟨v7, e8, hF⟩ := mm_bind hF
    refine go_gR hX c_106 rfl e8 ?_
    refine go_adv hX c_106 1 (F2 := (85, [.int (ki 2), .ref v7], [(0, .ref x0), (1, .int x1)], h)) rfl ?_
    obtain ⟨_, e9, hF⟩ := mm_bind hF
    obtain ⟨v10, e11, hF⟩ := mm_bind hF
    refine go_cV hX (As := [.int (ki 2)]) (rv := some (.int v10)) (h2 := h) (ci := 3) c_106 rfl (Nat.le_of_ble_eq_true rfl) rfl rfl e9 (by decide) (Nat.le_of_ble_eq_true rfl) (fun Q2 hQ2 => r_X3_landingsOf hX (d := (d + 1)) e11 hQ2) ?_
    cases hF
    exact go_iret hX c_106 rfl rfl rfl hQ
  rcases mm_ite hF with ⟨hc12, hF⟩ | ⟨hc12, hF⟩
  · refine go_sw hX 89 c_106 rfl hc12 (by decide) (by decide +kernel) ?_
    refine go_adv hX c_106 1 (F2 := (90, [.ref x0], [(0, .ref x0), (1, .int x1)], h)) rfl ?_
    obtain ⟨v13, e14, hF⟩ := mm_bind hF
    refine go_gR hX c_106 rfl e14 ?_
    obtain ⟨v15, e16, hF⟩ := mm_bind hF
    refine go_gI hX c_106 rfl e16 ?_
    cases hF
    exact go_iret hX c_106 rfl rfl rfl hQ
  rcases mm_ite hF with ⟨hc17, hF⟩ | ⟨hc17, hF⟩
  · refine go_sw hX 97 c_106 rfl hc17 (by decide) (by decide +kernel) ?_
    refine go_adv hX c_106 1 (F2 := (98, [.ref x0], [(0, .ref x0), (1, .int x1)], h)) rfl ?_
    obtain ⟨v18, e19, hF⟩ := mm_bind hF
    refine go_gR hX c_106 rfl e19 ?_
    obtain ⟨v20, e21, hF⟩ := mm_bind hF
    refine go_gI hX c_106 rfl e21 ?_
    cases hF
    exact go_iret hX c_106 rfl rfl rfl hQ
  rcases mm_ite hF with ⟨hc22, hF⟩ | ⟨hc22, hF⟩
  · refine go_sw hX 105 c_106 rfl hc22 (by decide) (by decide +kernel) ?_
    refine go_adv hX c_106 1 (F2 := (106, [.ref x0], [(0, .ref x0), (1, .int x1)], h)) rfl ?_
    obtain ⟨v23, e24, hF⟩ := mm_bind hF
    refine go_gR hX c_106 rfl e24 ?_
    refine go_adv hX c_106 1 (F2 := (110, [.int (ki 0), .ref v23], [(0, .ref x0), (1, .int x1)], h)) rfl ?_
    obtain ⟨_, e25, hF⟩ := mm_bind hF
    obtain ⟨v26, e27, hF⟩ := mm_bind hF
    refine go_cV hX (As := [.int (ki 0)]) (rv := some (.int v26)) (h2 := h) (ci := 3) c_106 rfl (Nat.le_of_ble_eq_true rfl) rfl rfl e25 (by decide) (Nat.le_of_ble_eq_true rfl) (fun Q2 hQ2 => r_X3_leasesOf hX (d := (d + 1)) e27 hQ2) ?_
    refine go_adv hX c_106 1 (F2 := (114, [.ref x0, .int v26], [(0, .ref x0), (1, .int x1)], h)) rfl ?_
    obtain ⟨v28, e29, hF⟩ := mm_bind hF
    refine go_gR hX c_106 rfl e29 ?_
    refine go_adv hX c_106 1 (F2 := (118, [.int (ki 1), .ref v28, .int v26], [(0, .ref x0), (1, .int x1)], h)) rfl ?_
    obtain ⟨_, e30, hF⟩ := mm_bind hF
    obtain ⟨v31, e32, hF⟩ := mm_bind hF
    refine go_cV hX (As := [.int (ki 1)]) (rv := some (.int v31)) (h2 := h) (ci := 3) c_106 rfl (Nat.le_of_ble_eq_true rfl) rfl rfl e30 (by decide) (Nat.le_of_ble_eq_true rfl) (fun Q2 hQ2 => r_X3_leasesOf hX (d := (d + 1)) e32 hQ2) ?_
    refine go_adv hX c_106 1 (F2 := (122, [.int (v26 + v31)], [(0, .ref x0), (1, .int x1)], h)) rfl ?_
    cases hF
    exact go_iret hX c_106 rfl rfl rfl hQ
  rcases mm_ite hF with ⟨hc33, hF⟩ | ⟨hc33, hF⟩
  · refine go_sw hX 123 c_106 rfl hc33 (by decide) (by decide +kernel) ?_
    refine go_adv hX c_106 1 (F2 := (124, [.ref x0], [(0, .ref x0), (1, .int x1)], h)) rfl ?_
    obtain ⟨v34, e35, hF⟩ := mm_bind hF
    refine go_gR hX c_106 rfl e35 ?_
    obtain ⟨_, e36, hF⟩ := mm_bind hF
    obtain ⟨v37, e38, hF⟩ := mm_bind hF
    refine go_cV hX (As := []) (rv := some (.int v37)) (h2 := h) (ci := 3) c_106 rfl (Nat.le_of_ble_eq_true rfl) rfl rfl e36 (by decide) (Nat.le_of_ble_eq_true rfl) (fun Q2 hQ2 => r_X3_dustOnAll hX (d := (d + 1)) e38 hQ2) ?_
    cases hF
    exact go_iret hX c_106 rfl rfl rfl hQ
  rcases mm_ite hF with ⟨hc39, hF⟩ | ⟨hc39, hF⟩
  · refine go_sw hX 131 c_106 rfl hc39 (by decide) (by decide +kernel) ?_
    refine go_adv hX c_106 1 (F2 := (132, [.ref x0], [(0, .ref x0), (1, .int x1)], h)) rfl ?_
    obtain ⟨v40, e41, hF⟩ := mm_bind hF
    refine go_gR hX c_106 rfl e41 ?_
    obtain ⟨v42, e43, hF⟩ := mm_bind hF
    refine go_gR hX c_106 rfl e43 ?_
    refine go_adv hX c_106 1 (F2 := (139, [.int (ki 0), .ref v42], [(0, .ref x0), (1, .int x1)], h)) rfl ?_
    obtain ⟨v44, e45, hF⟩ := mm_bind hF
    refine go_aR hX c_106 rfl e45 ?_
    obtain ⟨v46, e47, hF⟩ := mm_bind hF
    refine go_gI hX c_106 rfl e47 ?_
    refine go_adv hX c_106 1 (F2 := (144, [.ref x0, .int v46], [(0, .ref x0), (1, .int x1)], h)) rfl ?_
    obtain ⟨v48, e49, hF⟩ := mm_bind hF
    refine go_gR hX c_106 rfl e49 ?_
    obtain ⟨v50, e51, hF⟩ := mm_bind hF
    refine go_gR hX c_106 rfl e51 ?_
    refine go_adv hX c_106 1 (F2 := (151, [.int (ki 1), .ref v50, .int v46], [(0, .ref x0), (1, .int x1)], h)) rfl ?_
    obtain ⟨v52, e53, hF⟩ := mm_bind hF
    refine go_aR hX c_106 rfl e53 ?_
    obtain ⟨v54, e55, hF⟩ := mm_bind hF
    refine go_gI hX c_106 rfl e55 ?_
    refine go_adv hX c_106 1 (F2 := (156, [.int (v46 + v54)], [(0, .ref x0), (1, .int x1)], h)) rfl ?_
    cases hF
    exact go_iret hX c_106 rfl rfl rfl hQ
  rcases mm_ite hF with ⟨hc56, hF⟩ | ⟨hc56, hF⟩
  · refine go_sw hX 157 c_106 rfl hc56 (by decide) (by decide +kernel) ?_
    refine go_adv hX c_106 1 (F2 := (158, [.ref x0], [(0, .ref x0), (1, .int x1)], h)) rfl ?_
    obtain ⟨v57, e58, hF⟩ := mm_bind hF
    refine go_gR hX c_106 rfl e58 ?_
    obtain ⟨v59, e60, hF⟩ := mm_bind hF
    refine go_gI hX c_106 rfl e60 ?_
    cases hF
    exact go_iret hX c_106 rfl rfl rfl hQ
  rcases mm_ite hF with ⟨hc61, hF⟩ | ⟨hc61, hF⟩
  · refine go_sw hX 165 c_106 rfl hc61 (by decide) (by decide +kernel) ?_
    refine go_adv hX c_106 1 (F2 := (166, [.ref x0], [(0, .ref x0), (1, .int x1)], h)) rfl ?_
    obtain ⟨v62, e63, hF⟩ := mm_bind hF
    refine go_gR hX c_106 rfl e63 ?_
    obtain ⟨v64, e65, hF⟩ := mm_bind hF
    refine go_gR hX c_106 rfl e65 ?_
    refine go_adv hX c_106 1 (F2 := (173, [.int (ki 0), .ref v64], [(0, .ref x0), (1, .int x1)], h)) rfl ?_
    obtain ⟨v66, e67, hF⟩ := mm_bind hF
    refine go_aR hX c_106 rfl e67 ?_
    obtain ⟨v68, e69, hF⟩ := mm_bind hF
    refine go_gI hX c_106 rfl e69 ?_
    refine go_adv hX c_106 1 (F2 := (178, [.ref x0, .int v68], [(0, .ref x0), (1, .int x1)], h)) rfl ?_
    obtain ⟨v70, e71, hF⟩ := mm_bind hF
    refine go_gR hX c_106 rfl e71 ?_
    obtain ⟨v72, e73, hF⟩ := mm_bind hF
    refine go_gR hX c_106 rfl e73 ?_
    refine go_adv hX c_106 1 (F2 := (185, [.int (ki 1), .ref v72, .int v68], [(0, .ref x0), (1, .int x1)], h)) rfl ?_
    obtain ⟨v74, e75, hF⟩ := mm_bind hF
    refine go_aR hX c_106 rfl e75 ?_
    obtain ⟨v76, e77, hF⟩ := mm_bind hF
    refine go_gI hX c_106 rfl e77 ?_
    refine go_adv hX c_106 1 (F2 := (190, [.int (v68 + v76)], [(0, .ref x0), (1, .int x1)], h)) rfl ?_
    cases hF
    exact go_iret hX c_106 rfl rfl rfl hQ
  rcases mm_ite hF with ⟨hc78, hF⟩ | ⟨hc78, hF⟩
  · refine go_sw hX 191 c_106 rfl hc78 (by decide) (by decide +kernel) ?_
    refine go_adv hX c_106 1 (F2 := (192, [.ref x0], [(0, .ref x0), (1, .int x1)], h)) rfl ?_
    obtain ⟨v79, e80, hF⟩ := mm_bind hF
    refine go_gR hX c_106 rfl e80 ?_
    obtain ⟨v81, e82, hF⟩ := mm_bind hF
    refine go_gR hX c_106 rfl e82 ?_
    refine go_adv hX c_106 1 (F2 := (199, [.int (ki 0), .ref v81], [(0, .ref x0), (1, .int x1)], h)) rfl ?_
    obtain ⟨v83, e84, hF⟩ := mm_bind hF
    refine go_aR hX c_106 rfl e84 ?_
    obtain ⟨v85, e86, hF⟩ := mm_bind hF
    refine go_gI hX c_106 rfl e86 ?_
    refine go_adv hX c_106 1 (F2 := (204, [.ref x0, .int v85], [(0, .ref x0), (1, .int x1)], h)) rfl ?_
    obtain ⟨v87, e88, hF⟩ := mm_bind hF
    refine go_gR hX c_106 rfl e88 ?_
    obtain ⟨v89, e90, hF⟩ := mm_bind hF
    refine go_gR hX c_106 rfl e90 ?_
    refine go_adv hX c_106 1 (F2 := (211, [.int (ki 1), .ref v89, .int v85], [(0, .ref x0), (1, .int x1)], h)) rfl ?_
    obtain ⟨v91, e92, hF⟩ := mm_bind hF
    refine go_aR hX c_106 rfl e92 ?_
    obtain ⟨v93, e94, hF⟩ := mm_bind hF
    refine go_gI hX c_106 rfl e94 ?_
    refine go_adv hX c_106 1 (F2 := (216, [.int (v85 + v93)], [(0, .ref x0), (1, .int x1)], h)) rfl ?_
    cases hF
    exact go_iret hX c_106 rfl rfl rfl hQ
  rcases mm_ite hF with ⟨hc95, hF⟩ | ⟨hc95, hF⟩
  · refine go_sw hX 217 c_106 rfl hc95 (by decide) (by decide +kernel) ?_
    refine go_adv hX c_106 1 (F2 := (218, [.ref x0], [(0, .ref x0), (1, .int x1)], h)) rfl ?_
    obtain ⟨v96, e97, hF⟩ := mm_bind hF
    refine go_gR hX c_106 rfl e97 ?_
    obtain ⟨v98, e99, hF⟩ := mm_bind hF
    refine go_gI hX c_106 rfl e99 ?_
    cases hF
    exact go_iret hX c_106 rfl rfl rfl hQ
  rcases mm_ite hF with ⟨hc100, hF⟩ | ⟨hc100, hF⟩
  · refine go_sw hX 225 c_106 rfl hc100 (by decide) (by decide +kernel) ?_
    refine go_adv hX c_106 1 (F2 := (226, [.ref x0], [(0, .ref x0), (1, .int x1)], h)) rfl ?_
    obtain ⟨v101, e102, hF⟩ := mm_bind hF
    refine go_gR hX c_106 rfl e102 ?_
    obtain ⟨v103, e104, hF⟩ := mm_bind hF
    refine go_gI hX c_106 rfl e104 ?_
    cases hF
    exact go_iret hX c_106 rfl rfl rfl hQ
  rcases mm_ite hF with ⟨hc105, hF⟩ | ⟨hc105, hF⟩
  · refine go_sw hX 233 c_106 rfl hc105 (by decide) (by decide +kernel) ?_
    refine go_adv hX c_106 1 (F2 := (234, [.ref x0], [(0, .ref x0), (1, .int x1)], h)) rfl ?_
    obtain ⟨v106, e107, hF⟩ := mm_bind hF
    refine go_gR hX c_106 rfl e107 ?_
    obtain ⟨v108, e109, hF⟩ := mm_bind hF
    refine go_gR hX c_106 rfl e109 ?_
    obtain ⟨_, e110, hF⟩ := mm_bind hF
    obtain ⟨v111, e112, hF⟩ := mm_bind hF
    refine go_cV hX (As := []) (rv := some (.int v111)) (h2 := h) (ci := 7) c_106 rfl (Nat.le_of_ble_eq_true rfl) rfl rfl e110 (by decide) (Nat.le_of_ble_eq_true rfl) (fun Q2 hQ2 => r_J4_length_8abf5 hX (d := d) e112 hQ2) ?_
    cases hF
    exact go_iret hX c_106 rfl rfl rfl hQ
  rcases mm_ite hF with ⟨hc113, hF⟩ | ⟨hc113, hF⟩
  · refine go_sw hX 244 c_106 rfl hc113 (by decide) (by decide +kernel) ?_
    refine go_adv hX c_106 1 (F2 := (245, [.ref x0], [(0, .ref x0), (1, .int x1)], h)) rfl ?_
    obtain ⟨v114, e115, hF⟩ := mm_bind hF
    refine go_gI hX c_106 rfl e115 ?_
    cases hF
    exact go_iret hX c_106 rfl rfl rfl hQ
  refine go_swd hX 14 249 c_106 rfl (by decide) rfl (by decide) (fun i hi => match i, hi with | 0, _ => hc1 | 1, _ => hc6 | 2, _ => hc12 | 3, _ => hc17 | 4, _ => hc22 | 5, _ => hc33 | 6, _ => hc39 | 7, _ => hc56 | 8, _ => hc61 | 9, _ => hc78 | 10, _ => hc95 | 11, _ => hc100 | 12, _ => hc105 | 13, _ => hc113 | j + 14, hj => absurd hj (by omega)) (by decide) ?_
  cases hF
  exact go_thr hX "java/lang/IllegalArgumentException" c_106 rfl (by decide) rfl (Nat.le_of_ble_eq_true rfl) hck hQ
theorem c_107 : mm_cd 107 = k_X5_meanSteps := rfl
def F_X5_meanSteps (h : mm_S) (x0 : Nat) : Option (UInt64 ⊕ String) :=
  (fx_gR h x0 5 0).bind fun v1 =>
  (fx_gI h v1 3 3).bind fun v3 =>
  if v3 ≠ 0 then
    (fx_gR h x0 5 0).bind fun v6 =>
    (fx_is h v6 3).bind fun _ =>
    (F_X3_stepsOfAll h v6).bind fun v9 =>
    (fx_gR h x0 5 0).bind fun v11 =>
    (fx_gI h v11 3 3).bind fun v13 =>
    (fx_ddiv (FP.i2d v9) (FP.i2d v13)).bind fun v15 =>
    some (.inl v15)
  else
    some (.inr "java/lang/ArithmeticException")
theorem r_X5_meanSteps {X : mm_Cl} (hX : mm_mono X) {d c k : Nat} {Q : mm_Re → Prop} (hck : 1 ≤ c ∧ 6 ≤ k) {h : mm_S} {x0 : Nat} {o : (UInt64 ⊕ String)} (hF : F_X5_meanSteps h x0 = some o) (hQ : Q (fx_oD o, h)) : mm_Run X (d + 2) 107 c k [.ref x0] h Q := by
  unfold F_X5_meanSteps at hF
  refine mm_Run_in (by decide) (by decide) (Nat.le_of_ble_eq_true rfl) ?_
  show mm_Ex (mm_Run X (d + 1)) 107 Q (0, [], [(0, .ref x0)], h) c k
  refine go_adv hX c_107 1 (F2 := (1, [.ref x0], [(0, .ref x0)], h)) rfl ?_
  obtain ⟨v1, e2, hF⟩ := mm_bind hF
  refine go_gR hX c_107 rfl e2 ?_
  obtain ⟨v3, e4, hF⟩ := mm_bind hF
  refine go_gI hX c_107 rfl e4 ?_
  rcases mm_ite hF with ⟨hc5, hF⟩ | ⟨hc5, hF⟩
  · refine go_zt hX 21 c_107 rfl rfl hc5 ?_
    refine go_adv hX c_107 1 (F2 := (22, [.ref x0], [(0, .ref x0)], h)) rfl ?_
    obtain ⟨v6, e7, hF⟩ := mm_bind hF
    refine go_gR hX c_107 rfl e7 ?_
    obtain ⟨_, e8, hF⟩ := mm_bind hF
    obtain ⟨v9, e10, hF⟩ := mm_bind hF
    refine go_cV hX (As := []) (rv := some (.int v9)) (h2 := h) (ci := 3) c_107 rfl (Nat.le_of_ble_eq_true rfl) rfl rfl e8 (by decide) (Nat.le_of_ble_eq_true rfl) (fun Q2 hQ2 => r_X3_stepsOfAll hX (d := d) e10 hQ2) ?_
    refine go_adv hX c_107 2 (F2 := (30, [.ref x0, .double (FP.i2d v9)], [(0, .ref x0)], h)) rfl ?_
    obtain ⟨v11, e12, hF⟩ := mm_bind hF
    refine go_gR hX c_107 rfl e12 ?_
    obtain ⟨v13, e14, hF⟩ := mm_bind hF
    refine go_gI hX c_107 rfl e14 ?_
    refine go_adv hX c_107 1 (F2 := (37, [.double (FP.i2d v13), .double (FP.i2d v9)], [(0, .ref x0)], h)) rfl ?_
    obtain ⟨v15, e16, hF⟩ := mm_bind hF
    refine go_ddiv hX c_107 rfl e16 ?_
    cases hF
    exact go_dret hX c_107 rfl rfl hQ
  · refine go_zf hX c_107 rfl (by decide) hc5 ?_
    cases hF
    exact go_thr hX "java/lang/ArithmeticException" c_107 rfl (by decide) rfl (Nat.le_of_ble_eq_true rfl) hck hQ
theorem c_108 : mm_cd 108 = k_X5_leasedShare := rfl
def F_X5_leasedShare (h : mm_S) (x0 : Nat) : Option (UInt32 ⊕ String) :=
  (fx_gR h x0 5 0).bind fun v1 =>
  (fx_gI h v1 3 3).bind fun v3 =>
  if v3 ≠ 0 then
    (fx_gR h x0 5 0).bind fun v6 =>
    (fx_is h v6 3).bind fun _ =>
    (F_X3_leasesOf h v6 (ki 0)).bind fun v9 =>
    (fx_gR h x0 5 0).bind fun v11 =>
    (fx_is h v11 3).bind fun _ =>
    (F_X3_leasesOf h v11 (ki 1)).bind fun v14 =>
    (fx_gR h x0 5 0).bind fun v16 =>
    (fx_gI h v16 3 3).bind fun v18 =>
    (fx_fdiv (FP.i2f (v9 + v14)) (FP.i2f v18)).bind fun v20 =>
    some (.inl v20)
  else
    some (.inr "java/lang/ArithmeticException")
theorem r_X5_leasedShare {X : mm_Cl} (hX : mm_mono X) {d c k : Nat} {Q : mm_Re → Prop} (hck : 1 ≤ c ∧ 6 ≤ k) {h : mm_S} {x0 : Nat} {o : (UInt32 ⊕ String)} (hF : F_X5_leasedShare h x0 = some o) (hQ : Q (fx_oF o, h)) : mm_Run X (d + 2) 108 c k [.ref x0] h Q := by
  unfold F_X5_leasedShare at hF
  refine mm_Run_in (by decide) (by decide) (Nat.le_of_ble_eq_true rfl) ?_
  show mm_Ex (mm_Run X (d + 1)) 108 Q (0, [], [(0, .ref x0)], h) c k
  refine go_adv hX c_108 1 (F2 := (1, [.ref x0], [(0, .ref x0)], h)) rfl ?_
  obtain ⟨v1, e2, hF⟩ := mm_bind hF
  refine go_gR hX c_108 rfl e2 ?_
  obtain ⟨v3, e4, hF⟩ := mm_bind hF
  refine go_gI hX c_108 rfl e4 ?_
  rcases mm_ite hF with ⟨hc5, hF⟩ | ⟨hc5, hF⟩
  · refine go_zt hX 21 c_108 rfl rfl hc5 ?_
    refine go_adv hX c_108 1 (F2 := (22, [.ref x0], [(0, .ref x0)], h)) rfl ?_
    obtain ⟨v6, e7, hF⟩ := mm_bind hF
    refine go_gR hX c_108 rfl e7 ?_
    refine go_adv hX c_108 1 (F2 := (26, [.int (ki 0), .ref v6], [(0, .ref x0)], h)) rfl ?_
    obtain ⟨_, e8, hF⟩ := mm_bind hF
    obtain ⟨v9, e10, hF⟩ := mm_bind hF
    refine go_cV hX (As := [.int (ki 0)]) (rv := some (.int v9)) (h2 := h) (ci := 3) c_108 rfl (Nat.le_of_ble_eq_true rfl) rfl rfl e8 (by decide) (Nat.le_of_ble_eq_true rfl) (fun Q2 hQ2 => r_X3_leasesOf hX (d := d) e10 hQ2) ?_
    refine go_adv hX c_108 1 (F2 := (30, [.ref x0, .int v9], [(0, .ref x0)], h)) rfl ?_
    obtain ⟨v11, e12, hF⟩ := mm_bind hF
    refine go_gR hX c_108 rfl e12 ?_
    refine go_adv hX c_108 1 (F2 := (34, [.int (ki 1), .ref v11, .int v9], [(0, .ref x0)], h)) rfl ?_
    obtain ⟨_, e13, hF⟩ := mm_bind hF
    obtain ⟨v14, e15, hF⟩ := mm_bind hF
    refine go_cV hX (As := [.int (ki 1)]) (rv := some (.int v14)) (h2 := h) (ci := 3) c_108 rfl (Nat.le_of_ble_eq_true rfl) rfl rfl e13 (by decide) (Nat.le_of_ble_eq_true rfl) (fun Q2 hQ2 => r_X3_leasesOf hX (d := d) e15 hQ2) ?_
    refine go_adv hX c_108 3 (F2 := (40, [.ref x0, .float (FP.i2f (v9 + v14))], [(0, .ref x0)], h)) rfl ?_
    obtain ⟨v16, e17, hF⟩ := mm_bind hF
    refine go_gR hX c_108 rfl e17 ?_
    obtain ⟨v18, e19, hF⟩ := mm_bind hF
    refine go_gI hX c_108 rfl e19 ?_
    refine go_adv hX c_108 1 (F2 := (47, [.float (FP.i2f v18), .float (FP.i2f (v9 + v14))], [(0, .ref x0)], h)) rfl ?_
    obtain ⟨v20, e21, hF⟩ := mm_bind hF
    refine go_fdiv hX c_108 rfl e21 ?_
    cases hF
    exact go_fret hX c_108 rfl rfl hQ
  · refine go_zf hX c_108 rfl (by decide) hc5 ?_
    cases hF
    exact go_thr hX "java/lang/ArithmeticException" c_108 rfl (by decide) rfl (Nat.le_of_ble_eq_true rfl) hck hQ
theorem c_109 : mm_cd 109 = k_X5_undo := rfl
def F_X5_undo (h : mm_S) (x0 : Nat) : Option ((Int32 ⊕ String) × mm_S) :=
  (fx_gI h x0 5 5).bind fun v1 =>
  if v1 ≠ 0 then
    (fx_gI h x0 5 6).bind fun v4 =>
    (fx_rem ((v4 + (kb 8)) - (ki 1)) (kb 8)).bind fun v6 =>
    (fx_pV h x0 5 6 (.int v6)).bind fun h8 =>
    (fx_gI h8 x0 5 5).bind fun v10 =>
    (fx_pV h8 x0 5 5 (.int (v10 - (ki 1)))).bind fun h12 =>
    (fx_gR h12 x0 5 0).bind fun v14 =>
    (fx_gR h12 x0 5 4).bind fun v16 =>
    (fx_gI h12 x0 5 6).bind fun v18 =>
    (fx_aR h12 v16 v18).bind fun v20 =>
    (fx_is h12 v14 3).bind fun _ =>
    (F_X3_copyFrom h12 v14 v20).bind fun v23 =>
    (fx_gI v23 x0 5 5).bind fun v25 =>
    some (.inl v25, v23)
  else
    some (.inr "java/lang/IllegalStateException", h)
theorem r_X5_undo {X : mm_Cl} (hX : mm_mono X) {d c k : Nat} {Q : mm_Re → Prop} (hck : 1 ≤ c ∧ 6 ≤ k) {h : mm_S} {x0 : Nat} {o : ((Int32 ⊕ String) × mm_S)} (hF : F_X5_undo h x0 = some o) (hQ : Q (fx_oI o.1, o.2)) : mm_Run X (d + 3) 109 c k [.ref x0] h Q := by
  unfold F_X5_undo at hF
  refine mm_Run_in (by decide) (by decide) (Nat.le_of_ble_eq_true rfl) ?_
  show mm_Ex (mm_Run X (d + 2)) 109 Q (0, [], [(0, .ref x0)], h) c k
  refine go_adv hX c_109 1 (F2 := (1, [.ref x0], [(0, .ref x0)], h)) rfl ?_
  obtain ⟨v1, e2, hF⟩ := mm_bind hF
  refine go_gI hX c_109 rfl e2 ?_
  rcases mm_ite hF with ⟨hc3, hF⟩ | ⟨hc3, hF⟩
  · refine go_zt hX 18 c_109 rfl rfl hc3 ?_
    refine go_adv hX c_109 2 (F2 := (20, [.ref x0, .ref x0], [(0, .ref x0)], h)) rfl ?_
    obtain ⟨v4, e5, hF⟩ := mm_bind hF
    refine go_gI hX c_109 rfl e5 ?_
    refine go_adv hX c_109 5 (F2 := (30, [.int (kb 8), .int ((v4 + (kb 8)) - (ki 1)), .ref x0], [(0, .ref x0)], h)) rfl ?_
    obtain ⟨v6, e7, hF⟩ := mm_bind hF
    refine go_rem hX c_109 rfl e7 ?_
    obtain ⟨h8, e9, hF⟩ := mm_bind hF
    refine go_pV hX c_109 rfl e9 ?_
    refine go_adv hX c_109 1 (F2 := (35, [.ref x0], [(0, .ref x0)], h8)) rfl ?_
    refine go_p hX c_109 rfl rfl rfl ?_
    obtain ⟨v10, e11, hF⟩ := mm_bind hF
    refine go_gI hX c_109 rfl e11 ?_
    refine go_adv hX c_109 2 (F2 := (41, [.int (v10 - (ki 1)), .ref x0], [(0, .ref x0)], h8)) rfl ?_
    obtain ⟨h12, e13, hF⟩ := mm_bind hF
    refine go_pV hX c_109 rfl e13 ?_
    refine go_adv hX c_109 1 (F2 := (45, [.ref x0], [(0, .ref x0)], h12)) rfl ?_
    obtain ⟨v14, e15, hF⟩ := mm_bind hF
    refine go_gR hX c_109 rfl e15 ?_
    refine go_adv hX c_109 1 (F2 := (49, [.ref x0, .ref v14], [(0, .ref x0)], h12)) rfl ?_
    obtain ⟨v16, e17, hF⟩ := mm_bind hF
    refine go_gR hX c_109 rfl e17 ?_
    refine go_adv hX c_109 1 (F2 := (53, [.ref x0, .ref v16, .ref v14], [(0, .ref x0)], h12)) rfl ?_
    obtain ⟨v18, e19, hF⟩ := mm_bind hF
    refine go_gI hX c_109 rfl e19 ?_
    obtain ⟨v20, e21, hF⟩ := mm_bind hF
    refine go_aR hX c_109 rfl e21 ?_
    obtain ⟨_, e22, hF⟩ := mm_bind hF
    obtain ⟨v23, e24, hF⟩ := mm_bind hF
    refine go_cV hX (As := [.ref v20]) (rv := none) (h2 := v23) (ci := 3) c_109 rfl (Nat.le_of_ble_eq_true rfl) rfl rfl e22 (by decide) (Nat.le_of_ble_eq_true rfl) (fun Q2 hQ2 => r_X3_copyFrom hX (d := d) e24 hQ2) ?_
    refine go_adv hX c_109 1 (F2 := (61, [.ref x0], [(0, .ref x0)], v23)) rfl ?_
    obtain ⟨v25, e26, hF⟩ := mm_bind hF
    refine go_gI hX c_109 rfl e26 ?_
    cases hF
    exact go_iret hX c_109 rfl rfl rfl hQ
  · refine go_zf hX c_109 rfl (by decide) hc3 ?_
    cases hF
    exact go_thr hX "java/lang/IllegalStateException" c_109 rfl (by decide) rfl (Nat.le_of_ble_eq_true rfl) hck hQ
theorem c_110 : mm_cd 110 = k_X5_save := rfl
def F_X5_save (h : mm_S) (x0 : Nat) : Option (Int32 × mm_S) :=
  (fx_gR h x0 5 2).bind fun v1 =>
  (fx_gR h x0 5 0).bind fun v3 =>
  (fx_is h v1 3).bind fun _ =>
  (F_X3_copyFrom h v1 v3).bind fun v6 =>
  (fx_pV v6 x0 5 3 (.int (ki 1))).bind fun h8 =>
  (fx_gR h8 x0 5 0).bind fun v10 =>
  (fx_gI h8 v10 3 3).bind fun v12 =>
  some (v12, h8)
theorem r_X5_save {X : mm_Cl} (hX : mm_mono X) {d c k : Nat} {Q : mm_Re → Prop} {h : mm_S} {x0 : Nat} {o : (Int32 × mm_S)} (hF : F_X5_save h x0 = some o) (hQ : Q (.inl (some (.int o.1)), o.2)) : mm_Run X (d + 3) 110 c k [.ref x0] h Q := by
  unfold F_X5_save at hF
  refine mm_Run_in (by decide) (by decide) (Nat.le_of_ble_eq_true rfl) ?_
  show mm_Ex (mm_Run X (d + 2)) 110 Q (0, [], [(0, .ref x0)], h) c k
  refine go_adv hX c_110 1 (F2 := (1, [.ref x0], [(0, .ref x0)], h)) rfl ?_
  obtain ⟨v1, e2, hF⟩ := mm_bind hF
  refine go_gR hX c_110 rfl e2 ?_
  refine go_adv hX c_110 1 (F2 := (5, [.ref x0, .ref v1], [(0, .ref x0)], h)) rfl ?_
  obtain ⟨v3, e4, hF⟩ := mm_bind hF
  refine go_gR hX c_110 rfl e4 ?_
  obtain ⟨_, e5, hF⟩ := mm_bind hF
  obtain ⟨v6, e7, hF⟩ := mm_bind hF
  refine go_cV hX (As := [.ref v3]) (rv := none) (h2 := v6) (ci := 3) c_110 rfl (Nat.le_of_ble_eq_true rfl) rfl rfl e5 (by decide) (Nat.le_of_ble_eq_true rfl) (fun Q2 hQ2 => r_X3_copyFrom hX (d := d) e7 hQ2) ?_
  refine go_adv hX c_110 2 (F2 := (13, [.int (ki 1), .ref x0], [(0, .ref x0)], v6)) rfl ?_
  obtain ⟨h8, e9, hF⟩ := mm_bind hF
  refine go_pV hX c_110 rfl e9 ?_
  refine go_adv hX c_110 1 (F2 := (17, [.ref x0], [(0, .ref x0)], h8)) rfl ?_
  obtain ⟨v10, e11, hF⟩ := mm_bind hF
  refine go_gR hX c_110 rfl e11 ?_
  obtain ⟨v12, e13, hF⟩ := mm_bind hF
  refine go_gI hX c_110 rfl e13 ?_
  cases hF
  exact go_iret hX c_110 rfl rfl rfl hQ
theorem c_111 : mm_cd 111 = k_X5_restore := rfl
def F_X5_restore (h : mm_S) (x0 : Nat) : Option ((Int32 ⊕ String) × mm_S) :=
  (fx_gI h x0 5 3).bind fun v1 =>
  if v1 ≠ 0 then
    (fx_gR h x0 5 0).bind fun v4 =>
    (fx_gR h x0 5 2).bind fun v6 =>
    (fx_is h v4 3).bind fun _ =>
    (F_X3_copyFrom h v4 v6).bind fun v9 =>
    (fx_pV v9 x0 5 5 (.int (ki 0))).bind fun h11 =>
    (fx_gR h11 x0 5 0).bind fun v13 =>
    (fx_gI h11 v13 3 3).bind fun v15 =>
    some (.inl v15, h11)
  else
    some (.inr "java/lang/IllegalStateException", h)
theorem r_X5_restore {X : mm_Cl} (hX : mm_mono X) {d c k : Nat} {Q : mm_Re → Prop} (hck : 1 ≤ c ∧ 6 ≤ k) {h : mm_S} {x0 : Nat} {o : ((Int32 ⊕ String) × mm_S)} (hF : F_X5_restore h x0 = some o) (hQ : Q (fx_oI o.1, o.2)) : mm_Run X (d + 3) 111 c k [.ref x0] h Q := by
  unfold F_X5_restore at hF
  refine mm_Run_in (by decide) (by decide) (Nat.le_of_ble_eq_true rfl) ?_
  show mm_Ex (mm_Run X (d + 2)) 111 Q (0, [], [(0, .ref x0)], h) c k
  refine go_adv hX c_111 1 (F2 := (1, [.ref x0], [(0, .ref x0)], h)) rfl ?_
  obtain ⟨v1, e2, hF⟩ := mm_bind hF
  refine go_gI hX c_111 rfl e2 ?_
  rcases mm_ite hF with ⟨hc3, hF⟩ | ⟨hc3, hF⟩
  · refine go_zt hX 18 c_111 rfl rfl hc3 ?_
    refine go_adv hX c_111 1 (F2 := (19, [.ref x0], [(0, .ref x0)], h)) rfl ?_
    obtain ⟨v4, e5, hF⟩ := mm_bind hF
    refine go_gR hX c_111 rfl e5 ?_
    refine go_adv hX c_111 1 (F2 := (23, [.ref x0, .ref v4], [(0, .ref x0)], h)) rfl ?_
    obtain ⟨v6, e7, hF⟩ := mm_bind hF
    refine go_gR hX c_111 rfl e7 ?_
    obtain ⟨_, e8, hF⟩ := mm_bind hF
    obtain ⟨v9, e10, hF⟩ := mm_bind hF
    refine go_cV hX (As := [.ref v6]) (rv := none) (h2 := v9) (ci := 3) c_111 rfl (Nat.le_of_ble_eq_true rfl) rfl rfl e8 (by decide) (Nat.le_of_ble_eq_true rfl) (fun Q2 hQ2 => r_X3_copyFrom hX (d := d) e10 hQ2) ?_
    refine go_adv hX c_111 2 (F2 := (31, [.int (ki 0), .ref x0], [(0, .ref x0)], v9)) rfl ?_
    obtain ⟨h11, e12, hF⟩ := mm_bind hF
    refine go_pV hX c_111 rfl e12 ?_
    refine go_adv hX c_111 1 (F2 := (35, [.ref x0], [(0, .ref x0)], h11)) rfl ?_
    obtain ⟨v13, e14, hF⟩ := mm_bind hF
    refine go_gR hX c_111 rfl e14 ?_
    obtain ⟨v15, e16, hF⟩ := mm_bind hF
    refine go_gI hX c_111 rfl e16 ?_
    cases hF
    exact go_iret hX c_111 rfl rfl rfl hQ
  · refine go_zf hX c_111 rfl (by decide) hc3 ?_
    cases hF
    exact go_thr hX "java/lang/IllegalStateException" c_111 rfl (by decide) rfl (Nat.le_of_ble_eq_true rfl) hck hQ
theorem c_124 : mm_cd 124 = k_X6_thrown := rfl
def F_X6_thrown (h : mm_S) (x0 : Nat) : Option Int32 :=
  (fx_gI h x0 6 5).bind fun v1 =>
  some v1
theorem r_X6_thrown {X : mm_Cl} (hX : mm_mono X) {d c k : Nat} {Q : mm_Re → Prop} {h : mm_S} {x0 : Nat} {o : Int32} (hF : F_X6_thrown h x0 = some o) (hQ : Q (.inl (some (.int o)), h)) : mm_Run X (d + 1) 124 c k [.ref x0] h Q := by
  unfold F_X6_thrown at hF
  refine mm_Run_in (by decide) (by decide) (Nat.le_of_ble_eq_true rfl) ?_
  show mm_Ex (mm_Run X d) 124 Q (0, [], [(0, .ref x0)], h) c k
  refine go_adv hX c_124 1 (F2 := (1, [.ref x0], [(0, .ref x0)], h)) rfl ?_
  obtain ⟨v1, e2, hF⟩ := mm_bind hF
  refine go_gI hX c_124 rfl e2 ?_
  cases hF
  exact go_iret hX c_124 rfl rfl rfl hQ
theorem c_125 : mm_cd 125 = k_X6_in := rfl
def F_X6_in (h : mm_S) (x0 : Int32) (x1 : Int32) (x2 : Int32) : Option Int32 :=
  if x0 < x1 then
    some (ki 0)
  else
    if x2 < x0 then
      some (ki 0)
    else
      some (ki 1)
theorem r_X6_in {X : mm_Cl} (hX : mm_mono X) {d c k : Nat} {Q : mm_Re → Prop} {h : mm_S} {x0 : Int32} {x1 : Int32} {x2 : Int32} {o : Int32} (hF : F_X6_in h x0 x1 x2 = some o) (hQ : Q (.inl (some (.int o)), h)) : mm_Run X (d + 1) 125 c k [.int x0, .int x1, .int x2] h Q := by
  unfold F_X6_in at hF
  refine mm_Run_in (by decide) (by decide) (Nat.le_of_ble_eq_true rfl) ?_
  show mm_Ex (mm_Run X d) 125 Q (0, [], [(0, .int x0), (1, .int x1), (2, .int x2)], h) c k
  refine go_adv hX c_125 2 (F2 := (2, [.int x1, .int x0], [(0, .int x0), (1, .int x1), (2, .int x2)], h)) rfl ?_
  rcases mm_ite hF with ⟨hc1, hF⟩ | ⟨hc1, hF⟩
  · refine go_ct hX 14 c_125 rfl rfl hc1 ?_
    refine go_adv hX c_125 1 (F2 := (15, [.int (ki 0)], [(0, .int x0), (1, .int x1), (2, .int x2)], h)) rfl ?_
    cases hF
    exact go_iret hX c_125 rfl rfl (by decide) hQ
  · refine go_cf hX c_125 rfl (by decide) hc1 ?_
    refine go_adv hX c_125 2 (F2 := (7, [.int x2, .int x0], [(0, .int x0), (1, .int x1), (2, .int x2)], h)) rfl ?_
    rcases mm_ite hF with ⟨hc2, hF⟩ | ⟨hc2, hF⟩
    · refine go_ct hX 14 c_125 rfl rfl hc2 ?_
      refine go_adv hX c_125 1 (F2 := (15, [.int (ki 0)], [(0, .int x0), (1, .int x1), (2, .int x2)], h)) rfl ?_
      cases hF
      exact go_iret hX c_125 rfl rfl (by decide) hQ
    · refine go_cf hX c_125 rfl (by decide) hc2 ?_
      refine go_adv hX c_125 1 (F2 := (11, [.int (ki 1)], [(0, .int x0), (1, .int x1), (2, .int x2)], h)) rfl ?_
      refine go_to hX 15 c_125 rfl rfl ?_
      cases hF
      exact go_iret hX c_125 rfl rfl (by decide) hQ
theorem c_126 : mm_cd 126 = k_X6_copies := rfl
def F_X6_copies_L3 : Nat → Nat → Int32 → Nat → Int32 → Int32 → mm_S → Option mm_S
  | 0, _, _, _, _, _, _ => none
  | n + 1, x0, x1, x2, x3, x4, h =>
    if (kb 110) ≤ x4 then
      some h
    else
      (fx_aI h x0 (x1 + x4)).bind fun v2 =>
      (fx_sI h x2 (x3 + x4) v2).bind fun h4 =>
      F_X6_copies_L3 n x0 x1 x2 x3 (x4 + ki 1) h4
def F_X6_copies (h : mm_S) (x0 : Nat) (x1 : Int32) (x2 : Nat) (x3 : Int32) : Option mm_S :=
  (F_X6_copies_L3 1000 x0 x1 x2 x3 (ki 0) h).bind fun o6 =>
  some o6
theorem r_X6_copies_L3 {X : mm_Cl} (hX : mm_mono X) {d c k : Nat} {Q : mm_Re → Prop} : ∀ (n : Nat) (x0 : Nat) (x1 : Int32) (x2 : Nat) (x3 : Int32) (x4 : Int32) (h : mm_S) (o : mm_S), F_X6_copies_L3 n x0 x1 x2 x3 x4 h = some o → (mm_Ex (mm_Run X d) 126 Q (28, [], [], o) c k) → mm_Ex (mm_Run X d) 126 Q (3, [], [(0, .ref x0), (1, .int x1), (2, .ref x2), (3, .int x3), (4, .int x4)], h) c k := by
  intro n
  induction n with
  | zero => intro x0 x1 x2 x3 x4 h o hF; cases hF
  | succ n ih =>
    intro x0 x1 x2 x3 x4 h o hF hE
    unfold F_X6_copies_L3 at hF
    refine go_adv hX c_126 2 (F2 := (7, [.int (kb 110), .int x4], [(0, .ref x0), (1, .int x1), (2, .ref x2), (3, .int x3), (4, .int x4)], h)) rfl ?_
    rcases mm_ite hF with ⟨hc1, hF⟩ | ⟨hc1, hF⟩
    · refine go_ct hX 28 c_126 rfl rfl hc1 ?_
      cases hF
      refine go_ls [] trivial ?_
      exact hE
    · refine go_cf hX c_126 rfl (by decide) hc1 ?_
      refine go_adv hX c_126 8 (F2 := (20, [.int (x1 + x4), .ref x0, .int (x3 + x4), .ref x2], [(0, .ref x0), (1, .int x1), (2, .ref x2), (3, .int x3), (4, .int x4)], h)) rfl ?_
      obtain ⟨v2, e3, hF⟩ := mm_bind hF
      refine go_aI hX c_126 rfl e3 ?_
      obtain ⟨h4, e5, hF⟩ := mm_bind hF
      refine go_sI hX c_126 rfl e5 ?_
      refine go_adv hX c_126 1 (F2 := (25, [], [(4, .int (x4 + ki 1)), (0, .ref x0), (1, .int x1), (2, .ref x2), (3, .int x3)], h4)) rfl ?_
      refine go_to hX 3 c_126 rfl rfl ?_
      refine go_ls [(0, .ref x0), (1, .int x1), (2, .ref x2), (3, .int x3), (4, .int (x4 + ki 1))] ⟨rfl, ⟨rfl, ⟨rfl, ⟨rfl, ⟨rfl, trivial⟩⟩⟩⟩⟩ ?_
      exact ih x0 x1 x2 x3 (x4 + ki 1) h4 _ hF hE
theorem r_X6_copies {X : mm_Cl} (hX : mm_mono X) {d c k : Nat} {Q : mm_Re → Prop} {h : mm_S} {x0 : Nat} {x1 : Int32} {x2 : Nat} {x3 : Int32} {o : mm_S} (hF : F_X6_copies h x0 x1 x2 x3 = some o) (hQ : Q (.inl none, o)) : mm_Run X (d + 1) 126 c k [.ref x0, .int x1, .ref x2, .int x3] h Q := by
  unfold F_X6_copies at hF
  refine mm_Run_in (by decide) (by decide) (Nat.le_of_ble_eq_true rfl) ?_
  show mm_Ex (mm_Run X d) 126 Q (0, [], [(0, .ref x0), (1, .int x1), (2, .ref x2), (3, .int x3)], h) c k
  refine go_adv hX c_126 2 (F2 := (3, [], [(4, .int (ki 0)), (0, .ref x0), (1, .int x1), (2, .ref x2), (3, .int x3)], h)) rfl ?_
  refine go_ls [(0, .ref x0), (1, .int x1), (2, .ref x2), (3, .int x3), (4, .int (ki 0))] ⟨rfl, ⟨rfl, ⟨rfl, ⟨rfl, ⟨rfl, trivial⟩⟩⟩⟩⟩ ?_
  obtain ⟨o6, e7, hF⟩ := mm_bind hF
  refine r_X6_copies_L3 hX 1000 x0 x1 x2 x3 (ki 0) h o6 e7 ?_
  cases hF
  exact go_ret hX c_126 rfl rfl hQ
theorem c_127 : mm_cd 127 = k_X6_no := rfl
def F_X6_no (h : mm_S) (x0 : Nat) (x1 : Int32) : Option (Int32 × mm_S) :=
  (fx_pV h x0 6 5 (.int x1)).bind fun h1 =>
  some (ki 0, h1)
theorem r_X6_no {X : mm_Cl} (hX : mm_mono X) {d c k : Nat} {Q : mm_Re → Prop} {h : mm_S} {x0 : Nat} {x1 : Int32} {o : (Int32 × mm_S)} (hF : F_X6_no h x0 x1 = some o) (hQ : Q (.inl (some (.int o.1)), o.2)) : mm_Run X (d + 1) 127 c k [.ref x0, .int x1] h Q := by
  unfold F_X6_no at hF
  refine mm_Run_in (by decide) (by decide) (Nat.le_of_ble_eq_true rfl) ?_
  show mm_Ex (mm_Run X d) 127 Q (0, [], [(0, .ref x0), (1, .int x1)], h) c k
  refine go_adv hX c_127 2 (F2 := (2, [.int x1, .ref x0], [(0, .ref x0), (1, .int x1)], h)) rfl ?_
  obtain ⟨h1, e2, hF⟩ := mm_bind hF
  refine go_pV hX c_127 rfl e2 ?_
  refine go_adv hX c_127 1 (F2 := (6, [.int (ki 0)], [(0, .ref x0), (1, .int x1)], h1)) rfl ?_
  cases hF
  exact go_iret hX c_127 rfl rfl rfl hQ
theorem c_128 : mm_cd 128 = k_X6_isBad := rfl
def F_X6_isBad (h : mm_S) (x0 : Nat) (x1 : Int32) (x2 : Int32) : Option (Int32 × mm_S) :=
  (fx_pV h x0 6 7 (.int x1)).bind fun h1 =>
  (fx_pV h1 x0 6 8 (.int x2)).bind fun h3 =>
  some (ki 1, h3)
theorem r_X6_isBad {X : mm_Cl} (hX : mm_mono X) {d c k : Nat} {Q : mm_Re → Prop} {h : mm_S} {x0 : Nat} {x1 : Int32} {x2 : Int32} {o : (Int32 × mm_S)} (hF : F_X6_isBad h x0 x1 x2 = some o) (hQ : Q (.inl (some (.int o.1)), o.2)) : mm_Run X (d + 1) 128 c k [.ref x0, .int x1, .int x2] h Q := by
  unfold F_X6_isBad at hF
  refine mm_Run_in (by decide) (by decide) (Nat.le_of_ble_eq_true rfl) ?_
  show mm_Ex (mm_Run X d) 128 Q (0, [], [(0, .ref x0), (1, .int x1), (2, .int x2)], h) c k
  refine go_adv hX c_128 2 (F2 := (2, [.int x1, .ref x0], [(0, .ref x0), (1, .int x1), (2, .int x2)], h)) rfl ?_
  obtain ⟨h1, e2, hF⟩ := mm_bind hF
  refine go_pV hX c_128 rfl e2 ?_
  refine go_adv hX c_128 2 (F2 := (7, [.int x2, .ref x0], [(0, .ref x0), (1, .int x1), (2, .int x2)], h1)) rfl ?_
  obtain ⟨h3, e4, hF⟩ := mm_bind hF
  refine go_pV hX c_128 rfl e4 ?_
  refine go_adv hX c_128 1 (F2 := (11, [.int (ki 1)], [(0, .ref x0), (1, .int x1), (2, .int x2)], h3)) rfl ?_
  cases hF
  exact go_iret hX c_128 rfl rfl (by decide) hQ
theorem c_129 : mm_cd 129 = k_X6_refused := rfl
def F_X6_refused (h : mm_S) (x0 : Nat) : Option (Int32 × mm_S) :=
  (fx_gI h x0 6 7).bind fun v1 =>
  (fx_pV h x0 6 9 (.int v1)).bind fun h3 =>
  (fx_gI h3 x0 6 8).bind fun v5 =>
  (fx_pV h3 x0 6 10 (.int v5)).bind fun h7 =>
  (fx_pV h7 x0 6 11 (.int (ki 0))).bind fun h9 =>
  (fx_is h9 x0 6).bind fun _ =>
  (F_X6_no h9 x0 (ki 1)).bind fun v12 =>
  some (v12.1, v12.2)
theorem r_X6_refused {X : mm_Cl} (hX : mm_mono X) {d c k : Nat} {Q : mm_Re → Prop} {h : mm_S} {x0 : Nat} {o : (Int32 × mm_S)} (hF : F_X6_refused h x0 = some o) (hQ : Q (.inl (some (.int o.1)), o.2)) : mm_Run X (d + 2) 129 c k [.ref x0] h Q := by
  unfold F_X6_refused at hF
  refine mm_Run_in (by decide) (by decide) (Nat.le_of_ble_eq_true rfl) ?_
  show mm_Ex (mm_Run X (d + 1)) 129 Q (0, [], [(0, .ref x0)], h) c k
  refine go_adv hX c_129 2 (F2 := (2, [.ref x0, .ref x0], [(0, .ref x0)], h)) rfl ?_
  obtain ⟨v1, e2, hF⟩ := mm_bind hF
  refine go_gI hX c_129 rfl e2 ?_
  obtain ⟨h3, e4, hF⟩ := mm_bind hF
  refine go_pV hX c_129 rfl e4 ?_
  refine go_adv hX c_129 2 (F2 := (10, [.ref x0, .ref x0], [(0, .ref x0)], h3)) rfl ?_
  obtain ⟨v5, e6, hF⟩ := mm_bind hF
  refine go_gI hX c_129 rfl e6 ?_
  obtain ⟨h7, e8, hF⟩ := mm_bind hF
  refine go_pV hX c_129 rfl e8 ?_
  refine go_adv hX c_129 2 (F2 := (18, [.int (ki 0), .ref x0], [(0, .ref x0)], h7)) rfl ?_
  obtain ⟨h9, e10, hF⟩ := mm_bind hF
  refine go_pV hX c_129 rfl e10 ?_
  refine go_adv hX c_129 2 (F2 := (23, [.int (ki 1), .ref x0], [(0, .ref x0)], h9)) rfl ?_
  obtain ⟨_, e11, hF⟩ := mm_bind hF
  obtain ⟨v12, e13, hF⟩ := mm_bind hF
  refine go_cV hX (As := [.int (ki 1)]) (rv := some (.int v12.1)) (h2 := v12.2) (ci := 6) c_129 rfl (Nat.le_of_ble_eq_true rfl) rfl rfl e11 (by decide) (Nat.le_of_ble_eq_true rfl) (fun Q2 hQ2 => r_X6_no hX (d := d) e13 hQ2) ?_
  cases hF
  exact go_iret hX c_129 rfl rfl rfl hQ
theorem c_130 : mm_cd 130 = k_X6_begins := rfl
def F_X6_begins (h : mm_S) (x0 : Nat) : Option mm_S :=
  (fx_pV h x0 6 5 (.int (ki 0))).bind fun h1 =>
  (fx_gR h1 x0 6 0).bind fun v3 =>
  (fx_gR h1 x0 6 1).bind fun v5 =>
  (F_X6_copies h1 v3 (ki 0) v5 (ki 0)).bind fun v7 =>
  some v7
theorem r_X6_begins {X : mm_Cl} (hX : mm_mono X) {d c k : Nat} {Q : mm_Re → Prop} {h : mm_S} {x0 : Nat} {o : mm_S} (hF : F_X6_begins h x0 = some o) (hQ : Q (.inl none, o)) : mm_Run X (d + 2) 130 c k [.ref x0] h Q := by
  unfold F_X6_begins at hF
  refine mm_Run_in (by decide) (by decide) (Nat.le_of_ble_eq_true rfl) ?_
  show mm_Ex (mm_Run X (d + 1)) 130 Q (0, [], [(0, .ref x0)], h) c k
  refine go_adv hX c_130 2 (F2 := (2, [.int (ki 0), .ref x0], [(0, .ref x0)], h)) rfl ?_
  obtain ⟨h1, e2, hF⟩ := mm_bind hF
  refine go_pV hX c_130 rfl e2 ?_
  refine go_adv hX c_130 1 (F2 := (6, [.ref x0], [(0, .ref x0)], h1)) rfl ?_
  obtain ⟨v3, e4, hF⟩ := mm_bind hF
  refine go_gR hX c_130 rfl e4 ?_
  refine go_adv hX c_130 2 (F2 := (11, [.ref x0, .int (ki 0), .ref v3], [(0, .ref x0)], h1)) rfl ?_
  obtain ⟨v5, e6, hF⟩ := mm_bind hF
  refine go_gR hX c_130 rfl e6 ?_
  refine go_adv hX c_130 1 (F2 := (15, [.int (ki 0), .ref v5, .int (ki 0), .ref v3], [(0, .ref x0)], h1)) rfl ?_
  obtain ⟨v7, e8, hF⟩ := mm_bind hF
  refine go_cS hX (As := [.ref v3, .int (ki 0), .ref v5, .int (ki 0)]) (rv := none) (h2 := v7) c_130 rfl (by decide) (Nat.le_of_ble_eq_true rfl) rfl rfl (Nat.le_of_ble_eq_true rfl) (fun Q2 hQ2 => r_X6_copies hX (d := d) e8 hQ2) ?_
  cases hF
  exact go_ret hX c_130 rfl rfl hQ
theorem c_131 : mm_cd 131 = k_X6_keeps := rfl
def F_X6_keeps_B54 (h : mm_S) (x0 : Nat) (x1 : Int32) : Option (Int32 × mm_S) :=
  (fx_gR h x0 6 1).bind fun v4 =>
  (fx_gR h x0 6 4).bind fun v6 =>
  (fx_gI h x0 6 6).bind fun v8 =>
  (F_X6_copies h v4 (ki 0) v6 ((kb 110) * v8)).bind fun v10 =>
  (fx_gI v10 x0 6 6).bind fun v12 =>
  (fx_pV v10 x0 6 6 (.int (v12 + (ki 1)))).bind fun h14 =>
  some (x1, h14)
def F_X6_keeps_L11 : Nat → Nat → Int32 → Int32 → mm_S → Option mm_S
  | 0, _, _, _, _ => none
  | n + 1, x0, x1, x2, h =>
    if (kb 8) ≤ x2 then
      some h
    else
      (fx_gR h x0 6 4).bind fun v17 =>
      (fx_gR h x0 6 4).bind fun v19 =>
      (F_X6_copies h v17 ((kb 110) * x2) v19 ((kb 110) * (x2 - (ki 1)))).bind fun v21 =>
      F_X6_keeps_L11 n x0 x1 (x2 + ki 1) v21
def F_X6_keeps (h : mm_S) (x0 : Nat) (x1 : Int32) : Option (Int32 × mm_S) :=
  (fx_gI h x0 6 6).bind fun v1 =>
  if v1 ≠ (kb 8) then
    F_X6_keeps_B54 h x0 x1
  else
    (F_X6_keeps_L11 1000 x0 x1 (ki 1) h).bind fun o23 =>
    (fx_gI o23 x0 6 6).bind fun v25 =>
    (fx_pV o23 x0 6 6 (.int (v25 - (ki 1)))).bind fun h27 =>
    F_X6_keeps_B54 h27 x0 x1
theorem r_X6_keeps_B54 {X : mm_Cl} (hX : mm_mono X) {d c k : Nat} {Q : mm_Re → Prop} {h : mm_S} {x0 : Nat} {x1 : Int32} {o : (Int32 × mm_S)} (hF : F_X6_keeps_B54 h x0 x1 = some o) (hQ : Q (.inl (some (.int o.1)), o.2)) : mm_Ex (mm_Run X (d + 1)) 131 Q (54, [], [(0, .ref x0), (1, .int x1)], h) c k := by
  unfold F_X6_keeps_B54 at hF
  refine go_adv hX c_131 1 (F2 := (55, [.ref x0], [(0, .ref x0), (1, .int x1)], h)) rfl ?_
  obtain ⟨v4, e5, hF⟩ := mm_bind hF
  refine go_gR hX c_131 rfl e5 ?_
  refine go_adv hX c_131 2 (F2 := (60, [.ref x0, .int (ki 0), .ref v4], [(0, .ref x0), (1, .int x1)], h)) rfl ?_
  obtain ⟨v6, e7, hF⟩ := mm_bind hF
  refine go_gR hX c_131 rfl e7 ?_
  refine go_adv hX c_131 2 (F2 := (66, [.ref x0, .int (kb 110), .ref v6, .int (ki 0), .ref v4], [(0, .ref x0), (1, .int x1)], h)) rfl ?_
  obtain ⟨v8, e9, hF⟩ := mm_bind hF
  refine go_gI hX c_131 rfl e9 ?_
  refine go_adv hX c_131 1 (F2 := (70, [.int ((kb 110) * v8), .ref v6, .int (ki 0), .ref v4], [(0, .ref x0), (1, .int x1)], h)) rfl ?_
  obtain ⟨v10, e11, hF⟩ := mm_bind hF
  refine go_cS hX (As := [.ref v4, .int (ki 0), .ref v6, .int ((kb 110) * v8)]) (rv := none) (h2 := v10) c_131 rfl (by decide) (Nat.le_of_ble_eq_true rfl) rfl rfl (Nat.le_of_ble_eq_true rfl) (fun Q2 hQ2 => r_X6_copies hX (d := d) e11 hQ2) ?_
  refine go_adv hX c_131 1 (F2 := (74, [.ref x0], [(0, .ref x0), (1, .int x1)], v10)) rfl ?_
  refine go_p hX c_131 rfl rfl rfl ?_
  obtain ⟨v12, e13, hF⟩ := mm_bind hF
  refine go_gI hX c_131 rfl e13 ?_
  refine go_adv hX c_131 2 (F2 := (80, [.int (v12 + (ki 1)), .ref x0], [(0, .ref x0), (1, .int x1)], v10)) rfl ?_
  obtain ⟨h14, e15, hF⟩ := mm_bind hF
  refine go_pV hX c_131 rfl e15 ?_
  refine go_adv hX c_131 1 (F2 := (84, [.int x1], [(0, .ref x0), (1, .int x1)], h14)) rfl ?_
  cases hF
  exact go_iret hX c_131 rfl rfl rfl hQ
theorem r_X6_keeps_L11 {X : mm_Cl} (hX : mm_mono X) {d c k : Nat} {Q : mm_Re → Prop} : ∀ (n : Nat) (x0 : Nat) (x1 : Int32) (x2 : Int32) (h : mm_S) (o : mm_S), F_X6_keeps_L11 n x0 x1 x2 h = some o → (mm_Ex (mm_Run X (d + 1)) 131 Q (44, [], [(0, .ref x0), (1, .int x1)], o) c k) → mm_Ex (mm_Run X (d + 1)) 131 Q (11, [], [(0, .ref x0), (1, .int x1), (2, .int x2)], h) c k := by
  intro n
  induction n with
  | zero => intro x0 x1 x2 h o hF; cases hF
  | succ n ih =>
    intro x0 x1 x2 h o hF hE
    unfold F_X6_keeps_L11 at hF
    refine go_adv hX c_131 2 (F2 := (14, [.int (kb 8), .int x2], [(0, .ref x0), (1, .int x1), (2, .int x2)], h)) rfl ?_
    rcases mm_ite hF with ⟨hc16, hF⟩ | ⟨hc16, hF⟩
    · refine go_ct hX 44 c_131 rfl rfl hc16 ?_
      cases hF
      refine go_ls [(0, .ref x0), (1, .int x1)] ⟨rfl, ⟨rfl, trivial⟩⟩ ?_
      exact hE
    · refine go_cf hX c_131 rfl (by decide) hc16 ?_
      refine go_adv hX c_131 1 (F2 := (18, [.ref x0], [(0, .ref x0), (1, .int x1), (2, .int x2)], h)) rfl ?_
      obtain ⟨v17, e18, hF⟩ := mm_bind hF
      refine go_gR hX c_131 rfl e18 ?_
      refine go_adv hX c_131 4 (F2 := (26, [.ref x0, .int ((kb 110) * x2), .ref v17], [(0, .ref x0), (1, .int x1), (2, .int x2)], h)) rfl ?_
      obtain ⟨v19, e20, hF⟩ := mm_bind hF
      refine go_gR hX c_131 rfl e20 ?_
      refine go_adv hX c_131 5 (F2 := (35, [.int ((kb 110) * (x2 - (ki 1))), .ref v19, .int ((kb 110) * x2), .ref v17], [(0, .ref x0), (1, .int x1), (2, .int x2)], h)) rfl ?_
      obtain ⟨v21, e22, hF⟩ := mm_bind hF
      refine go_cS hX (As := [.ref v17, .int ((kb 110) * x2), .ref v19, .int ((kb 110) * (x2 - (ki 1)))]) (rv := none) (h2 := v21) c_131 rfl (by decide) (Nat.le_of_ble_eq_true rfl) rfl rfl (Nat.le_of_ble_eq_true rfl) (fun Q2 hQ2 => r_X6_copies hX (d := d) e22 hQ2) ?_
      refine go_adv hX c_131 1 (F2 := (41, [], [(2, .int (x2 + ki 1)), (0, .ref x0), (1, .int x1)], v21)) rfl ?_
      refine go_to hX 11 c_131 rfl rfl ?_
      refine go_ls [(0, .ref x0), (1, .int x1), (2, .int (x2 + ki 1))] ⟨rfl, ⟨rfl, ⟨rfl, trivial⟩⟩⟩ ?_
      exact ih x0 x1 (x2 + ki 1) v21 _ hF hE
theorem r_X6_keeps {X : mm_Cl} (hX : mm_mono X) {d c k : Nat} {Q : mm_Re → Prop} {h : mm_S} {x0 : Nat} {x1 : Int32} {o : (Int32 × mm_S)} (hF : F_X6_keeps h x0 x1 = some o) (hQ : Q (.inl (some (.int o.1)), o.2)) : mm_Run X (d + 2) 131 c k [.ref x0, .int x1] h Q := by
  unfold F_X6_keeps at hF
  refine mm_Run_in (by decide) (by decide) (Nat.le_of_ble_eq_true rfl) ?_
  show mm_Ex (mm_Run X (d + 1)) 131 Q (0, [], [(0, .ref x0), (1, .int x1)], h) c k
  refine go_adv hX c_131 1 (F2 := (1, [.ref x0], [(0, .ref x0), (1, .int x1)], h)) rfl ?_
  obtain ⟨v1, e2, hF⟩ := mm_bind hF
  refine go_gI hX c_131 rfl e2 ?_
  refine go_adv hX c_131 1 (F2 := (6, [.int (kb 8), .int v1], [(0, .ref x0), (1, .int x1)], h)) rfl ?_
  rcases mm_ite hF with ⟨hc3, hF⟩ | ⟨hc3, hF⟩
  · refine go_ct hX 54 c_131 rfl rfl hc3 ?_
    refine go_ls [(0, .ref x0), (1, .int x1)] ⟨rfl, ⟨rfl, trivial⟩⟩ ?_
    exact r_X6_keeps_B54 hX hF hQ
  · refine go_cf hX c_131 rfl (by decide) hc3 ?_
    refine go_adv hX c_131 2 (F2 := (11, [], [(2, .int (ki 1)), (0, .ref x0), (1, .int x1)], h)) rfl ?_
    refine go_ls [(0, .ref x0), (1, .int x1), (2, .int (ki 1))] ⟨rfl, ⟨rfl, ⟨rfl, trivial⟩⟩⟩ ?_
    obtain ⟨o23, e24, hF⟩ := mm_bind hF
    refine r_X6_keeps_L11 hX 1000 x0 x1 (ki 1) h o23 e24 ?_
    refine go_adv hX c_131 1 (F2 := (45, [.ref x0], [(0, .ref x0), (1, .int x1)], o23)) rfl ?_
    refine go_p hX c_131 rfl rfl rfl ?_
    obtain ⟨v25, e26, hF⟩ := mm_bind hF
    refine go_gI hX c_131 rfl e26 ?_
    refine go_adv hX c_131 2 (F2 := (51, [.int (v25 - (ki 1)), .ref x0], [(0, .ref x0), (1, .int x1)], o23)) rfl ?_
    obtain ⟨h27, e28, hF⟩ := mm_bind hF
    refine go_pV hX c_131 rfl e28 ?_
    refine go_ls [(0, .ref x0), (1, .int x1)] ⟨rfl, ⟨rfl, trivial⟩⟩ ?_
    exact r_X6_keeps_B54 hX hF hQ
theorem c_132 : mm_cd 132 = k_X6_gv := rfl
def F_X6_gv (h : mm_S) (x0 : Nat) (x1 : Int32) (x2 : Int32) : Option Int32 :=
  (fx_gR h x0 6 0).bind fun v1 =>
  (fx_aI h v1 (((kb 12) + ((ki 5) * x1)) + x2)).bind fun v3 =>
  some v3
theorem r_X6_gv {X : mm_Cl} (hX : mm_mono X) {d c k : Nat} {Q : mm_Re → Prop} {h : mm_S} {x0 : Nat} {x1 : Int32} {x2 : Int32} {o : Int32} (hF : F_X6_gv h x0 x1 x2 = some o) (hQ : Q (.inl (some (.int o)), h)) : mm_Run X (d + 1) 132 c k [.ref x0, .int x1, .int x2] h Q := by
  unfold F_X6_gv at hF
  refine mm_Run_in (by decide) (by decide) (Nat.le_of_ble_eq_true rfl) ?_
  show mm_Ex (mm_Run X d) 132 Q (0, [], [(0, .ref x0), (1, .int x1), (2, .int x2)], h) c k
  refine go_adv hX c_132 1 (F2 := (1, [.ref x0], [(0, .ref x0), (1, .int x1), (2, .int x2)], h)) rfl ?_
  obtain ⟨v1, e2, hF⟩ := mm_bind hF
  refine go_gR hX c_132 rfl e2 ?_
  refine go_adv hX c_132 7 (F2 := (12, [.int (((kb 12) + ((ki 5) * x1)) + x2), .ref v1], [(0, .ref x0), (1, .int x1), (2, .int x2)], h)) rfl ?_
  obtain ⟨v3, e4, hF⟩ := mm_bind hF
  refine go_aI hX c_132 rfl e4 ?_
  cases hF
  exact go_iret hX c_132 rfl rfl rfl hQ
theorem c_133 : mm_cd 133 = k_X6_more := rfl
def F_X6_more (h : mm_S) (x0 : Nat) (x1 : Int32) (x2 : Int32) (x3 : Int32) : Option mm_S :=
  (fx_gR h x0 6 0).bind fun v1 =>
  (fx_aI h v1 (((kb 12) + ((ki 5) * x1)) + x2)).bind fun v3 =>
  (fx_sI h v1 (((kb 12) + ((ki 5) * x1)) + x2) (v3 + x3)).bind fun h5 =>
  some h5
theorem r_X6_more {X : mm_Cl} (hX : mm_mono X) {d c k : Nat} {Q : mm_Re → Prop} {h : mm_S} {x0 : Nat} {x1 : Int32} {x2 : Int32} {x3 : Int32} {o : mm_S} (hF : F_X6_more h x0 x1 x2 x3 = some o) (hQ : Q (.inl none, o)) : mm_Run X (d + 1) 133 c k [.ref x0, .int x1, .int x2, .int x3] h Q := by
  unfold F_X6_more at hF
  refine mm_Run_in (by decide) (by decide) (Nat.le_of_ble_eq_true rfl) ?_
  show mm_Ex (mm_Run X d) 133 Q (0, [], [(0, .ref x0), (1, .int x1), (2, .int x2), (3, .int x3)], h) c k
  refine go_adv hX c_133 1 (F2 := (1, [.ref x0], [(0, .ref x0), (1, .int x1), (2, .int x2), (3, .int x3)], h)) rfl ?_
  obtain ⟨v1, e2, hF⟩ := mm_bind hF
  refine go_gR hX c_133 rfl e2 ?_
  refine go_adv hX c_133 7 (F2 := (12, [.int (((kb 12) + ((ki 5) * x1)) + x2), .ref v1], [(0, .ref x0), (1, .int x1), (2, .int x2), (3, .int x3)], h)) rfl ?_
  refine go_p hX c_133 rfl rfl ⟨rfl, rfl⟩ ?_
  obtain ⟨v3, e4, hF⟩ := mm_bind hF
  refine go_aI hX c_133 rfl e4 ?_
  refine go_adv hX c_133 2 (F2 := (16, [.int (v3 + x3), .int (((kb 12) + ((ki 5) * x1)) + x2), .ref v1], [(0, .ref x0), (1, .int x1), (2, .int x2), (3, .int x3)], h)) rfl ?_
  obtain ⟨h5, e6, hF⟩ := mm_bind hF
  refine go_sI hX c_133 rfl e6 ?_
  cases hF
  exact go_ret hX c_133 rfl rfl hQ
theorem c_134 : mm_cd 134 = k_X6_sv := rfl
def F_X6_sv (h : mm_S) (x0 : Nat) (x1 : Int32) (x2 : Int32) : Option Int32 :=
  (fx_gR h x0 6 0).bind fun v1 =>
  (fx_aI h v1 (((kb 34) + ((kb 7) * x1)) + x2)).bind fun v3 =>
  some v3
theorem r_X6_sv {X : mm_Cl} (hX : mm_mono X) {d c k : Nat} {Q : mm_Re → Prop} {h : mm_S} {x0 : Nat} {x1 : Int32} {x2 : Int32} {o : Int32} (hF : F_X6_sv h x0 x1 x2 = some o) (hQ : Q (.inl (some (.int o)), h)) : mm_Run X (d + 1) 134 c k [.ref x0, .int x1, .int x2] h Q := by
  unfold F_X6_sv at hF
  refine mm_Run_in (by decide) (by decide) (Nat.le_of_ble_eq_true rfl) ?_
  show mm_Ex (mm_Run X d) 134 Q (0, [], [(0, .ref x0), (1, .int x1), (2, .int x2)], h) c k
  refine go_adv hX c_134 1 (F2 := (1, [.ref x0], [(0, .ref x0), (1, .int x1), (2, .int x2)], h)) rfl ?_
  obtain ⟨v1, e2, hF⟩ := mm_bind hF
  refine go_gR hX c_134 rfl e2 ?_
  refine go_adv hX c_134 7 (F2 := (13, [.int (((kb 34) + ((kb 7) * x1)) + x2), .ref v1], [(0, .ref x0), (1, .int x1), (2, .int x2)], h)) rfl ?_
  obtain ⟨v3, e4, hF⟩ := mm_bind hF
  refine go_aI hX c_134 rfl e4 ?_
  cases hF
  exact go_iret hX c_134 rfl rfl rfl hQ
theorem c_135 : mm_cd 135 = k_X6_ls := rfl
def F_X6_ls (h : mm_S) (x0 : Nat) (x1 : Int32) (x2 : Int32) (x3 : Int32) : Option mm_S :=
  (fx_gR h x0 6 0).bind fun v1 =>
  (fx_sI h v1 (((kb 34) + ((kb 7) * x1)) + x2) x3).bind fun h3 =>
  some h3
theorem r_X6_ls {X : mm_Cl} (hX : mm_mono X) {d c k : Nat} {Q : mm_Re → Prop} {h : mm_S} {x0 : Nat} {x1 : Int32} {x2 : Int32} {x3 : Int32} {o : mm_S} (hF : F_X6_ls h x0 x1 x2 x3 = some o) (hQ : Q (.inl none, o)) : mm_Run X (d + 1) 135 c k [.ref x0, .int x1, .int x2, .int x3] h Q := by
  unfold F_X6_ls at hF
  refine mm_Run_in (by decide) (by decide) (Nat.le_of_ble_eq_true rfl) ?_
  show mm_Ex (mm_Run X d) 135 Q (0, [], [(0, .ref x0), (1, .int x1), (2, .int x2), (3, .int x3)], h) c k
  refine go_adv hX c_135 1 (F2 := (1, [.ref x0], [(0, .ref x0), (1, .int x1), (2, .int x2), (3, .int x3)], h)) rfl ?_
  obtain ⟨v1, e2, hF⟩ := mm_bind hF
  refine go_gR hX c_135 rfl e2 ?_
  refine go_adv hX c_135 8 (F2 := (14, [.int x3, .int (((kb 34) + ((kb 7) * x1)) + x2), .ref v1], [(0, .ref x0), (1, .int x1), (2, .int x2), (3, .int x3)], h)) rfl ?_
  obtain ⟨h3, e4, hF⟩ := mm_bind hF
  refine go_sI hX c_135 rfl e4 ?_
  cases hF
  exact go_ret hX c_135 rfl rfl hQ
theorem c_136 : mm_cd 136 = k_X6_owner := rfl
def F_X6_owner (h : mm_S) (x0 : Nat) (x1 : Int32) : Option Int32 :=
  (fx_gR h x0 6 0).bind fun v1 =>
  (fx_aI h v1 ((kb 24) + x1)).bind fun v3 =>
  some v3
theorem r_X6_owner {X : mm_Cl} (hX : mm_mono X) {d c k : Nat} {Q : mm_Re → Prop} {h : mm_S} {x0 : Nat} {x1 : Int32} {o : Int32} (hF : F_X6_owner h x0 x1 = some o) (hQ : Q (.inl (some (.int o)), h)) : mm_Run X (d + 1) 136 c k [.ref x0, .int x1] h Q := by
  unfold F_X6_owner at hF
  refine mm_Run_in (by decide) (by decide) (Nat.le_of_ble_eq_true rfl) ?_
  show mm_Ex (mm_Run X d) 136 Q (0, [], [(0, .ref x0), (1, .int x1)], h) c k
  refine go_adv hX c_136 1 (F2 := (1, [.ref x0], [(0, .ref x0), (1, .int x1)], h)) rfl ?_
  obtain ⟨v1, e2, hF⟩ := mm_bind hF
  refine go_gR hX c_136 rfl e2 ?_
  refine go_adv hX c_136 3 (F2 := (8, [.int ((kb 24) + x1), .ref v1], [(0, .ref x0), (1, .int x1)], h)) rfl ?_
  obtain ⟨v3, e4, hF⟩ := mm_bind hF
  refine go_aI hX c_136 rfl e4 ?_
  cases hF
  exact go_iret hX c_136 rfl rfl rfl hQ
theorem c_137 : mm_cd 137 = k_X6_isGiant := rfl
def F_X6_isGiant (h : mm_S) (x0 : Int32) : Option Int32 :=
  (F_X6_in h x0 (ki 0) (ki 1)).bind fun v1 =>
  (fx_nar .boolean v1).bind fun v3 =>
  some v3
theorem r_X6_isGiant {X : mm_Cl} (hX : mm_mono X) {d c k : Nat} {Q : mm_Re → Prop} {h : mm_S} {x0 : Int32} {o : Int32} (hF : F_X6_isGiant h x0 = some o) (hQ : Q (.inl (some (.int o)), h)) : mm_Run X (d + 2) 137 c k [.int x0] h Q := by
  unfold F_X6_isGiant at hF
  refine mm_Run_in (by decide) (by decide) (Nat.le_of_ble_eq_true rfl) ?_
  show mm_Ex (mm_Run X (d + 1)) 137 Q (0, [], [(0, .int x0)], h) c k
  refine go_adv hX c_137 3 (F2 := (3, [.int (ki 1), .int (ki 0), .int x0], [(0, .int x0)], h)) rfl ?_
  obtain ⟨v1, e2, hF⟩ := mm_bind hF
  refine go_cS hX (As := [.int x0, .int (ki 0), .int (ki 1)]) (rv := some (.int v1)) (h2 := h) c_137 rfl (by decide) (Nat.le_of_ble_eq_true rfl) rfl rfl (Nat.le_of_ble_eq_true rfl) (fun Q2 hQ2 => r_X6_in hX (d := d) e2 hQ2) ?_
  obtain ⟨v3, e4, hF⟩ := mm_bind hF
  obtain ⟨rfl, e4n⟩ := fx_nar_s e4
  cases hF
  exact go_iret hX c_137 rfl rfl e4n hQ
theorem c_138 : mm_cd 138 = k_X6_isLanding := rfl
def F_X6_isLanding (h : mm_S) (x0 : Int32) : Option Int32 :=
  (F_X6_in h x0 (ki 0) (kb 7)).bind fun v1 =>
  (fx_nar .boolean v1).bind fun v3 =>
  some v3
theorem r_X6_isLanding {X : mm_Cl} (hX : mm_mono X) {d c k : Nat} {Q : mm_Re → Prop} {h : mm_S} {x0 : Int32} {o : Int32} (hF : F_X6_isLanding h x0 = some o) (hQ : Q (.inl (some (.int o)), h)) : mm_Run X (d + 2) 138 c k [.int x0] h Q := by
  unfold F_X6_isLanding at hF
  refine mm_Run_in (by decide) (by decide) (Nat.le_of_ble_eq_true rfl) ?_
  show mm_Ex (mm_Run X (d + 1)) 138 Q (0, [], [(0, .int x0)], h) c k
  refine go_adv hX c_138 3 (F2 := (4, [.int (kb 7), .int (ki 0), .int x0], [(0, .int x0)], h)) rfl ?_
  obtain ⟨v1, e2, hF⟩ := mm_bind hF
  refine go_cS hX (As := [.int x0, .int (ki 0), .int (kb 7)]) (rv := some (.int v1)) (h2 := h) c_138 rfl (by decide) (Nat.le_of_ble_eq_true rfl) rfl rfl (Nat.le_of_ble_eq_true rfl) (fun Q2 hQ2 => r_X6_in hX (d := d) e2 hQ2) ?_
  obtain ⟨v3, e4, hF⟩ := mm_bind hF
  obtain ⟨rfl, e4n⟩ := fx_nar_s e4
  cases hF
  exact go_iret hX c_138 rfl rfl e4n hQ
theorem c_139 : mm_cd 139 = k_X6_isStair := rfl
def F_X6_isStair (h : mm_S) (x0 : Nat) (x1 : Int32) : Option Int32 :=
  (fx_gR h x0 6 0).bind fun v1 =>
  (fx_aI h v1 (ki 0)).bind fun v3 =>
  (F_X6_in h x1 (ki 0) (v3 - (ki 1))).bind fun v5 =>
  (fx_nar .boolean v5).bind fun v7 =>
  some v7
theorem r_X6_isStair {X : mm_Cl} (hX : mm_mono X) {d c k : Nat} {Q : mm_Re → Prop} {h : mm_S} {x0 : Nat} {x1 : Int32} {o : Int32} (hF : F_X6_isStair h x0 x1 = some o) (hQ : Q (.inl (some (.int o)), h)) : mm_Run X (d + 2) 139 c k [.ref x0, .int x1] h Q := by
  unfold F_X6_isStair at hF
  refine mm_Run_in (by decide) (by decide) (Nat.le_of_ble_eq_true rfl) ?_
  show mm_Ex (mm_Run X (d + 1)) 139 Q (0, [], [(0, .ref x0), (1, .int x1)], h) c k
  refine go_adv hX c_139 3 (F2 := (3, [.ref x0, .int (ki 0), .int x1], [(0, .ref x0), (1, .int x1)], h)) rfl ?_
  obtain ⟨v1, e2, hF⟩ := mm_bind hF
  refine go_gR hX c_139 rfl e2 ?_
  refine go_adv hX c_139 1 (F2 := (7, [.int (ki 0), .ref v1, .int (ki 0), .int x1], [(0, .ref x0), (1, .int x1)], h)) rfl ?_
  obtain ⟨v3, e4, hF⟩ := mm_bind hF
  refine go_aI hX c_139 rfl e4 ?_
  refine go_adv hX c_139 2 (F2 := (10, [.int (v3 - (ki 1)), .int (ki 0), .int x1], [(0, .ref x0), (1, .int x1)], h)) rfl ?_
  obtain ⟨v5, e6, hF⟩ := mm_bind hF
  refine go_cS hX (As := [.int x1, .int (ki 0), .int (v3 - (ki 1))]) (rv := some (.int v5)) (h2 := h) c_139 rfl (by decide) (Nat.le_of_ble_eq_true rfl) rfl rfl (Nat.le_of_ble_eq_true rfl) (fun Q2 hQ2 => r_X6_in hX (d := d) e6 hQ2) ?_
  obtain ⟨v7, e8, hF⟩ := mm_bind hF
  obtain ⟨rfl, e8n⟩ := fx_nar_s e8
  cases hF
  exact go_iret hX c_139 rfl rfl e8n hQ
theorem c_140 : mm_cd 140 = k_X6_isNoGiant := rfl
def F_X6_isNoGiant (h : mm_S) (x0 : Nat) (x1 : Int32) : Option (Int32 × mm_S) :=
  (F_X6_isGiant h x1).bind fun v1 =>
  if v1 ≠ 0 then
    some (ki 0, h)
  else
    (fx_is h x0 6).bind fun _ =>
    (F_X6_isBad h x0 (ki 2) x1).bind fun v5 =>
    if v5.1 = 0 then
      some (ki 0, v5.2)
    else
      some (ki 1, v5.2)
theorem r_X6_isNoGiant {X : mm_Cl} (hX : mm_mono X) {d c k : Nat} {Q : mm_Re → Prop} {h : mm_S} {x0 : Nat} {x1 : Int32} {o : (Int32 × mm_S)} (hF : F_X6_isNoGiant h x0 x1 = some o) (hQ : Q (.inl (some (.int o.1)), o.2)) : mm_Run X (d + 3) 140 c k [.ref x0, .int x1] h Q := by
  unfold F_X6_isNoGiant at hF
  refine mm_Run_in (by decide) (by decide) (Nat.le_of_ble_eq_true rfl) ?_
  show mm_Ex (mm_Run X (d + 2)) 140 Q (0, [], [(0, .ref x0), (1, .int x1)], h) c k
  refine go_adv hX c_140 1 (F2 := (1, [.int x1], [(0, .ref x0), (1, .int x1)], h)) rfl ?_
  obtain ⟨v1, e2, hF⟩ := mm_bind hF
  refine go_cS hX (As := [.int x1]) (rv := some (.int v1)) (h2 := h) c_140 rfl (by decide) (Nat.le_of_ble_eq_true rfl) rfl rfl (Nat.le_of_ble_eq_true rfl) (fun Q2 hQ2 => r_X6_isGiant hX (d := d) e2 hQ2) ?_
  rcases mm_ite hF with ⟨hc3, hF⟩ | ⟨hc3, hF⟩
  · refine go_zt hX 20 c_140 rfl rfl hc3 ?_
    refine go_adv hX c_140 1 (F2 := (21, [.int (ki 0)], [(0, .ref x0), (1, .int x1)], h)) rfl ?_
    cases hF
    exact go_iret hX c_140 rfl rfl (by decide) hQ
  · refine go_zf hX c_140 rfl (by decide) hc3 ?_
    refine go_adv hX c_140 3 (F2 := (10, [.int x1, .int (ki 2), .ref x0], [(0, .ref x0), (1, .int x1)], h)) rfl ?_
    obtain ⟨_, e4, hF⟩ := mm_bind hF
    obtain ⟨v5, e6, hF⟩ := mm_bind hF
    refine go_cV hX (As := [.int (ki 2), .int x1]) (rv := some (.int v5.1)) (h2 := v5.2) (ci := 6) c_140 rfl (Nat.le_of_ble_eq_true rfl) rfl rfl e4 (by decide) (Nat.le_of_ble_eq_true rfl) (fun Q2 hQ2 => r_X6_isBad hX (d := (d + 1)) e6 hQ2) ?_
    rcases mm_ite hF with ⟨hc7, hF⟩ | ⟨hc7, hF⟩
    · refine go_zt hX 20 c_140 rfl rfl hc7 ?_
      refine go_adv hX c_140 1 (F2 := (21, [.int (ki 0)], [(0, .ref x0), (1, .int x1)], v5.2)) rfl ?_
      cases hF
      exact go_iret hX c_140 rfl rfl (by decide) hQ
    · refine go_zf hX c_140 rfl (by decide) hc7 ?_
      refine go_adv hX c_140 1 (F2 := (17, [.int (ki 1)], [(0, .ref x0), (1, .int x1)], v5.2)) rfl ?_
      refine go_to hX 21 c_140 rfl rfl ?_
      cases hF
      exact go_iret hX c_140 rfl rfl (by decide) hQ
theorem c_141 : mm_cd 141 = k_X6_isNoLanding := rfl
def F_X6_isNoLanding (h : mm_S) (x0 : Nat) (x1 : Int32) : Option (Int32 × mm_S) :=
  (F_X6_isLanding h x1).bind fun v1 =>
  if v1 ≠ 0 then
    some (ki 0, h)
  else
    (fx_is h x0 6).bind fun _ =>
    (F_X6_isBad h x0 (ki 2) x1).bind fun v5 =>
    if v5.1 = 0 then
      some (ki 0, v5.2)
    else
      some (ki 1, v5.2)
theorem r_X6_isNoLanding {X : mm_Cl} (hX : mm_mono X) {d c k : Nat} {Q : mm_Re → Prop} {h : mm_S} {x0 : Nat} {x1 : Int32} {o : (Int32 × mm_S)} (hF : F_X6_isNoLanding h x0 x1 = some o) (hQ : Q (.inl (some (.int o.1)), o.2)) : mm_Run X (d + 3) 141 c k [.ref x0, .int x1] h Q := by
  unfold F_X6_isNoLanding at hF
  refine mm_Run_in (by decide) (by decide) (Nat.le_of_ble_eq_true rfl) ?_
  show mm_Ex (mm_Run X (d + 2)) 141 Q (0, [], [(0, .ref x0), (1, .int x1)], h) c k
  refine go_adv hX c_141 1 (F2 := (1, [.int x1], [(0, .ref x0), (1, .int x1)], h)) rfl ?_
  obtain ⟨v1, e2, hF⟩ := mm_bind hF
  refine go_cS hX (As := [.int x1]) (rv := some (.int v1)) (h2 := h) c_141 rfl (by decide) (Nat.le_of_ble_eq_true rfl) rfl rfl (Nat.le_of_ble_eq_true rfl) (fun Q2 hQ2 => r_X6_isLanding hX (d := d) e2 hQ2) ?_
  rcases mm_ite hF with ⟨hc3, hF⟩ | ⟨hc3, hF⟩
  · refine go_zt hX 20 c_141 rfl rfl hc3 ?_
    refine go_adv hX c_141 1 (F2 := (21, [.int (ki 0)], [(0, .ref x0), (1, .int x1)], h)) rfl ?_
    cases hF
    exact go_iret hX c_141 rfl rfl (by decide) hQ
  · refine go_zf hX c_141 rfl (by decide) hc3 ?_
    refine go_adv hX c_141 3 (F2 := (10, [.int x1, .int (ki 2), .ref x0], [(0, .ref x0), (1, .int x1)], h)) rfl ?_
    obtain ⟨_, e4, hF⟩ := mm_bind hF
    obtain ⟨v5, e6, hF⟩ := mm_bind hF
    refine go_cV hX (As := [.int (ki 2), .int x1]) (rv := some (.int v5.1)) (h2 := v5.2) (ci := 6) c_141 rfl (Nat.le_of_ble_eq_true rfl) rfl rfl e4 (by decide) (Nat.le_of_ble_eq_true rfl) (fun Q2 hQ2 => r_X6_isBad hX (d := (d + 1)) e6 hQ2) ?_
    rcases mm_ite hF with ⟨hc7, hF⟩ | ⟨hc7, hF⟩
    · refine go_zt hX 20 c_141 rfl rfl hc7 ?_
      refine go_adv hX c_141 1 (F2 := (21, [.int (ki 0)], [(0, .ref x0), (1, .int x1)], v5.2)) rfl ?_
      cases hF
      exact go_iret hX c_141 rfl rfl (by decide) hQ
    · refine go_zf hX c_141 rfl (by decide) hc7 ?_
      refine go_adv hX c_141 1 (F2 := (17, [.int (ki 1)], [(0, .ref x0), (1, .int x1)], v5.2)) rfl ?_
      refine go_to hX 21 c_141 rfl rfl ?_
      cases hF
      exact go_iret hX c_141 rfl rfl (by decide) hQ
theorem c_142 : mm_cd 142 = k_X6_isNoStair := rfl
def F_X6_isNoStair (h : mm_S) (x0 : Nat) (x1 : Int32) : Option (Int32 × mm_S) :=
  (fx_is h x0 6).bind fun _ =>
  (F_X6_isStair h x0 x1).bind fun v2 =>
  if v2 ≠ 0 then
    some (ki 0, h)
  else
    (fx_is h x0 6).bind fun _ =>
    (F_X6_isBad h x0 (ki 2) x1).bind fun v6 =>
    if v6.1 = 0 then
      some (ki 0, v6.2)
    else
      some (ki 1, v6.2)
theorem r_X6_isNoStair {X : mm_Cl} (hX : mm_mono X) {d c k : Nat} {Q : mm_Re → Prop} {h : mm_S} {x0 : Nat} {x1 : Int32} {o : (Int32 × mm_S)} (hF : F_X6_isNoStair h x0 x1 = some o) (hQ : Q (.inl (some (.int o.1)), o.2)) : mm_Run X (d + 3) 142 c k [.ref x0, .int x1] h Q := by
  unfold F_X6_isNoStair at hF
  refine mm_Run_in (by decide) (by decide) (Nat.le_of_ble_eq_true rfl) ?_
  show mm_Ex (mm_Run X (d + 2)) 142 Q (0, [], [(0, .ref x0), (1, .int x1)], h) c k
  refine go_adv hX c_142 2 (F2 := (2, [.int x1, .ref x0], [(0, .ref x0), (1, .int x1)], h)) rfl ?_
  obtain ⟨_, e1, hF⟩ := mm_bind hF
  obtain ⟨v2, e3, hF⟩ := mm_bind hF
  refine go_cV hX (As := [.int x1]) (rv := some (.int v2)) (h2 := h) (ci := 6) c_142 rfl (Nat.le_of_ble_eq_true rfl) rfl rfl e1 (by decide) (Nat.le_of_ble_eq_true rfl) (fun Q2 hQ2 => r_X6_isStair hX (d := d) e3 hQ2) ?_
  rcases mm_ite hF with ⟨hc4, hF⟩ | ⟨hc4, hF⟩
  · refine go_zt hX 21 c_142 rfl rfl hc4 ?_
    refine go_adv hX c_142 1 (F2 := (22, [.int (ki 0)], [(0, .ref x0), (1, .int x1)], h)) rfl ?_
    cases hF
    exact go_iret hX c_142 rfl rfl (by decide) hQ
  · refine go_zf hX c_142 rfl (by decide) hc4 ?_
    refine go_adv hX c_142 3 (F2 := (11, [.int x1, .int (ki 2), .ref x0], [(0, .ref x0), (1, .int x1)], h)) rfl ?_
    obtain ⟨_, e5, hF⟩ := mm_bind hF
    obtain ⟨v6, e7, hF⟩ := mm_bind hF
    refine go_cV hX (As := [.int (ki 2), .int x1]) (rv := some (.int v6.1)) (h2 := v6.2) (ci := 6) c_142 rfl (Nat.le_of_ble_eq_true rfl) rfl rfl e5 (by decide) (Nat.le_of_ble_eq_true rfl) (fun Q2 hQ2 => r_X6_isBad hX (d := (d + 1)) e7 hQ2) ?_
    rcases mm_ite hF with ⟨hc8, hF⟩ | ⟨hc8, hF⟩
    · refine go_zt hX 21 c_142 rfl rfl hc8 ?_
      refine go_adv hX c_142 1 (F2 := (22, [.int (ki 0)], [(0, .ref x0), (1, .int x1)], v6.2)) rfl ?_
      cases hF
      exact go_iret hX c_142 rfl rfl (by decide) hQ
    · refine go_zf hX c_142 rfl (by decide) hc8 ?_
      refine go_adv hX c_142 1 (F2 := (18, [.int (ki 1)], [(0, .ref x0), (1, .int x1)], v6.2)) rfl ?_
      refine go_to hX 22 c_142 rfl rfl ?_
      cases hF
      exact go_iret hX c_142 rfl rfl (by decide) hQ
theorem c_143 : mm_cd 143 = k_X6_joins := rfl
def F_X6_joins_B20 (h : mm_S) (x0 : Nat) (x1 : Int32) (x2 : Int32) (x3 : Int32) : Option Int32 :=
  (fx_is h x0 6).bind fun _ =>
  (F_X6_sv h x0 x1 (ki 0)).bind fun v6 =>
  if v6 ≠ x3 then
    some (ki 0)
  else
    (fx_is h x0 6).bind fun _ =>
    (F_X6_sv h x0 x1 (ki 1)).bind fun v10 =>
    if v10 ≠ x2 then
      some (ki 0)
    else
      some (ki 1)
def F_X6_joins (h : mm_S) (x0 : Nat) (x1 : Int32) (x2 : Int32) (x3 : Int32) : Option Int32 :=
  (fx_is h x0 6).bind fun _ =>
  (F_X6_sv h x0 x1 (ki 0)).bind fun v2 =>
  if v2 ≠ x2 then
    F_X6_joins_B20 h x0 x1 x2 x3
  else
    (fx_is h x0 6).bind fun _ =>
    (F_X6_sv h x0 x1 (ki 1)).bind fun v14 =>
    if v14 = x3 then
      some (ki 1)
    else
      F_X6_joins_B20 h x0 x1 x2 x3
theorem r_X6_joins_B20 {X : mm_Cl} (hX : mm_mono X) {d c k : Nat} {Q : mm_Re → Prop} {h : mm_S} {x0 : Nat} {x1 : Int32} {x2 : Int32} {x3 : Int32} {o : Int32} (hF : F_X6_joins_B20 h x0 x1 x2 x3 = some o) (hQ : Q (.inl (some (.int o)), h)) : mm_Ex (mm_Run X (d + 1)) 143 Q (20, [], [(0, .ref x0), (1, .int x1), (2, .int x2), (3, .int x3)], h) c k := by
  unfold F_X6_joins_B20 at hF
  refine go_adv hX c_143 3 (F2 := (23, [.int (ki 0), .int x1, .ref x0], [(0, .ref x0), (1, .int x1), (2, .int x2), (3, .int x3)], h)) rfl ?_
  obtain ⟨_, e5, hF⟩ := mm_bind hF
  obtain ⟨v6, e7, hF⟩ := mm_bind hF
  refine go_cV hX (As := [.int x1, .int (ki 0)]) (rv := some (.int v6)) (h2 := h) (ci := 6) c_143 rfl (Nat.le_of_ble_eq_true rfl) rfl rfl e5 (by decide) (Nat.le_of_ble_eq_true rfl) (fun Q2 hQ2 => r_X6_sv hX (d := d) e7 hQ2) ?_
  refine go_adv hX c_143 1 (F2 := (27, [.int x3, .int v6], [(0, .ref x0), (1, .int x1), (2, .int x2), (3, .int x3)], h)) rfl ?_
  rcases mm_ite hF with ⟨hc8, hF⟩ | ⟨hc8, hF⟩
  · refine go_ct hX 44 c_143 rfl rfl hc8 ?_
    refine go_adv hX c_143 1 (F2 := (45, [.int (ki 0)], [(0, .ref x0), (1, .int x1), (2, .int x2), (3, .int x3)], h)) rfl ?_
    cases hF
    exact go_iret hX c_143 rfl rfl (by decide) hQ
  · refine go_cf hX c_143 rfl (by decide) hc8 ?_
    refine go_adv hX c_143 3 (F2 := (33, [.int (ki 1), .int x1, .ref x0], [(0, .ref x0), (1, .int x1), (2, .int x2), (3, .int x3)], h)) rfl ?_
    obtain ⟨_, e9, hF⟩ := mm_bind hF
    obtain ⟨v10, e11, hF⟩ := mm_bind hF
    refine go_cV hX (As := [.int x1, .int (ki 1)]) (rv := some (.int v10)) (h2 := h) (ci := 6) c_143 rfl (Nat.le_of_ble_eq_true rfl) rfl rfl e9 (by decide) (Nat.le_of_ble_eq_true rfl) (fun Q2 hQ2 => r_X6_sv hX (d := d) e11 hQ2) ?_
    refine go_adv hX c_143 1 (F2 := (37, [.int x2, .int v10], [(0, .ref x0), (1, .int x1), (2, .int x2), (3, .int x3)], h)) rfl ?_
    rcases mm_ite hF with ⟨hc12, hF⟩ | ⟨hc12, hF⟩
    · refine go_ct hX 44 c_143 rfl rfl hc12 ?_
      refine go_adv hX c_143 1 (F2 := (45, [.int (ki 0)], [(0, .ref x0), (1, .int x1), (2, .int x2), (3, .int x3)], h)) rfl ?_
      cases hF
      exact go_iret hX c_143 rfl rfl (by decide) hQ
    · refine go_cf hX c_143 rfl (by decide) hc12 ?_
      refine go_adv hX c_143 1 (F2 := (41, [.int (ki 1)], [(0, .ref x0), (1, .int x1), (2, .int x2), (3, .int x3)], h)) rfl ?_
      refine go_to hX 45 c_143 rfl rfl ?_
      cases hF
      exact go_iret hX c_143 rfl rfl (by decide) hQ
theorem r_X6_joins {X : mm_Cl} (hX : mm_mono X) {d c k : Nat} {Q : mm_Re → Prop} {h : mm_S} {x0 : Nat} {x1 : Int32} {x2 : Int32} {x3 : Int32} {o : Int32} (hF : F_X6_joins h x0 x1 x2 x3 = some o) (hQ : Q (.inl (some (.int o)), h)) : mm_Run X (d + 2) 143 c k [.ref x0, .int x1, .int x2, .int x3] h Q := by
  unfold F_X6_joins at hF
  refine mm_Run_in (by decide) (by decide) (Nat.le_of_ble_eq_true rfl) ?_
  show mm_Ex (mm_Run X (d + 1)) 143 Q (0, [], [(0, .ref x0), (1, .int x1), (2, .int x2), (3, .int x3)], h) c k
  refine go_adv hX c_143 3 (F2 := (3, [.int (ki 0), .int x1, .ref x0], [(0, .ref x0), (1, .int x1), (2, .int x2), (3, .int x3)], h)) rfl ?_
  obtain ⟨_, e1, hF⟩ := mm_bind hF
  obtain ⟨v2, e3, hF⟩ := mm_bind hF
  refine go_cV hX (As := [.int x1, .int (ki 0)]) (rv := some (.int v2)) (h2 := h) (ci := 6) c_143 rfl (Nat.le_of_ble_eq_true rfl) rfl rfl e1 (by decide) (Nat.le_of_ble_eq_true rfl) (fun Q2 hQ2 => r_X6_sv hX (d := d) e3 hQ2) ?_
  refine go_adv hX c_143 1 (F2 := (7, [.int x2, .int v2], [(0, .ref x0), (1, .int x1), (2, .int x2), (3, .int x3)], h)) rfl ?_
  rcases mm_ite hF with ⟨hc4, hF⟩ | ⟨hc4, hF⟩
  · refine go_ct hX 20 c_143 rfl rfl hc4 ?_
    refine go_ls [(0, .ref x0), (1, .int x1), (2, .int x2), (3, .int x3)] ⟨rfl, ⟨rfl, ⟨rfl, ⟨rfl, trivial⟩⟩⟩⟩ ?_
    exact r_X6_joins_B20 hX hF hQ
  · refine go_cf hX c_143 rfl (by decide) hc4 ?_
    refine go_adv hX c_143 3 (F2 := (13, [.int (ki 1), .int x1, .ref x0], [(0, .ref x0), (1, .int x1), (2, .int x2), (3, .int x3)], h)) rfl ?_
    obtain ⟨_, e13, hF⟩ := mm_bind hF
    obtain ⟨v14, e15, hF⟩ := mm_bind hF
    refine go_cV hX (As := [.int x1, .int (ki 1)]) (rv := some (.int v14)) (h2 := h) (ci := 6) c_143 rfl (Nat.le_of_ble_eq_true rfl) rfl rfl e13 (by decide) (Nat.le_of_ble_eq_true rfl) (fun Q2 hQ2 => r_X6_sv hX (d := d) e15 hQ2) ?_
    refine go_adv hX c_143 1 (F2 := (17, [.int x3, .int v14], [(0, .ref x0), (1, .int x1), (2, .int x2), (3, .int x3)], h)) rfl ?_
    rcases mm_ite hF with ⟨hc16, hF⟩ | ⟨hc16, hF⟩
    · refine go_ct hX 40 c_143 rfl rfl hc16 ?_
      refine go_adv hX c_143 1 (F2 := (41, [.int (ki 1)], [(0, .ref x0), (1, .int x1), (2, .int x2), (3, .int x3)], h)) rfl ?_
      refine go_to hX 45 c_143 rfl rfl ?_
      cases hF
      exact go_iret hX c_143 rfl rfl (by decide) hQ
    · refine go_cf hX c_143 rfl (by decide) hc16 ?_
      refine go_ls [(0, .ref x0), (1, .int x1), (2, .int x2), (3, .int x3)] ⟨rfl, ⟨rfl, ⟨rfl, ⟨rfl, trivial⟩⟩⟩⟩ ?_
      exact r_X6_joins_B20 hX hF hQ
theorem c_144 : mm_cd 144 = k_X6_stairBetween := rfl
def F_X6_stairBetween_L2 (h : mm_S) : Nat → Nat → Int32 → Int32 → Int32 → Option (Int32 ⊕ Unit)
  | 0, _, _, _, _ => none
  | n + 1, x0, x1, x2, x3 =>
    (fx_gR h x0 6 0).bind fun v1 =>
    (fx_aI h v1 (ki 0)).bind fun v3 =>
    if v3 ≤ x3 then
      some (.inr (()))
    else
      (fx_is h x0 6).bind fun _ =>
      (F_X6_joins h x0 x3 x1 x2).bind fun v7 =>
      if v7 = 0 then
        F_X6_stairBetween_L2 h n x0 x1 x2 (x3 + ki 1)
      else
        some (.inl x3)
def F_X6_stairBetween (h : mm_S) (x0 : Nat) (x1 : Int32) (x2 : Int32) : Option Int32 :=
  (F_X6_stairBetween_L2 h 1000 x0 x1 x2 (ki 0)).bind fun o10 => match o10 with
    | .inl o10r => some o10r
    | .inr o10e =>
      some (ki (-1))
theorem r_X6_stairBetween_L2 {X : mm_Cl} (hX : mm_mono X) {d c k : Nat} {Q : mm_Re → Prop} {h : mm_S} : ∀ (n : Nat) (x0 : Nat) (x1 : Int32) (x2 : Int32) (x3 : Int32) (o : (Int32 ⊕ Unit)), F_X6_stairBetween_L2 h n x0 x1 x2 x3 = some o → (∀ r, o = .inl r → Q (.inl (some (.int r)), h)) → (∀ e, o = .inr e → mm_Ex (mm_Run X (d + 2)) 144 Q (30, [], [], h) c k) → mm_Ex (mm_Run X (d + 2)) 144 Q (2, [], [(0, .ref x0), (1, .int x1), (2, .int x2), (3, .int x3)], h) c k := by
  intro n
  induction n with
  | zero => intro x0 x1 x2 x3 o hF; cases hF
  | succ n ih =>
    intro x0 x1 x2 x3 o hF hR hE
    unfold F_X6_stairBetween_L2 at hF
    refine go_adv hX c_144 2 (F2 := (4, [.ref x0, .int x3], [(0, .ref x0), (1, .int x1), (2, .int x2), (3, .int x3)], h)) rfl ?_
    obtain ⟨v1, e2, hF⟩ := mm_bind hF
    refine go_gR hX c_144 rfl e2 ?_
    refine go_adv hX c_144 1 (F2 := (8, [.int (ki 0), .ref v1, .int x3], [(0, .ref x0), (1, .int x1), (2, .int x2), (3, .int x3)], h)) rfl ?_
    obtain ⟨v3, e4, hF⟩ := mm_bind hF
    refine go_aI hX c_144 rfl e4 ?_
    rcases mm_ite hF with ⟨hc5, hF⟩ | ⟨hc5, hF⟩
    · refine go_ct hX 30 c_144 rfl rfl hc5 ?_
      cases hF
      refine go_ls [] trivial ?_
      exact hE _ rfl
    · refine go_cf hX c_144 rfl (by decide) hc5 ?_
      refine go_adv hX c_144 4 (F2 := (16, [.int x2, .int x1, .int x3, .ref x0], [(0, .ref x0), (1, .int x1), (2, .int x2), (3, .int x3)], h)) rfl ?_
      obtain ⟨_, e6, hF⟩ := mm_bind hF
      obtain ⟨v7, e8, hF⟩ := mm_bind hF
      refine go_cV hX (As := [.int x3, .int x1, .int x2]) (rv := some (.int v7)) (h2 := h) (ci := 6) c_144 rfl (Nat.le_of_ble_eq_true rfl) rfl rfl e6 (by decide) (Nat.le_of_ble_eq_true rfl) (fun Q2 hQ2 => r_X6_joins hX (d := d) e8 hQ2) ?_
      rcases mm_ite hF with ⟨hc9, hF⟩ | ⟨hc9, hF⟩
      · refine go_zt hX 24 c_144 rfl rfl hc9 ?_
        refine go_adv hX c_144 1 (F2 := (27, [], [(3, .int (x3 + ki 1)), (0, .ref x0), (1, .int x1), (2, .int x2)], h)) rfl ?_
        refine go_to hX 2 c_144 rfl rfl ?_
        refine go_ls [(0, .ref x0), (1, .int x1), (2, .int x2), (3, .int (x3 + ki 1))] ⟨rfl, ⟨rfl, ⟨rfl, ⟨rfl, trivial⟩⟩⟩⟩ ?_
        exact ih x0 x1 x2 (x3 + ki 1) _ hF hR hE
      · refine go_zf hX c_144 rfl (by decide) hc9 ?_
        refine go_adv hX c_144 1 (F2 := (23, [.int x3], [(0, .ref x0), (1, .int x1), (2, .int x2), (3, .int x3)], h)) rfl ?_
        cases hF
        have hQ := hR _ rfl
        exact go_iret hX c_144 rfl rfl rfl hQ
theorem r_X6_stairBetween {X : mm_Cl} (hX : mm_mono X) {d c k : Nat} {Q : mm_Re → Prop} {h : mm_S} {x0 : Nat} {x1 : Int32} {x2 : Int32} {o : Int32} (hF : F_X6_stairBetween h x0 x1 x2 = some o) (hQ : Q (.inl (some (.int o)), h)) : mm_Run X (d + 3) 144 c k [.ref x0, .int x1, .int x2] h Q := by
  unfold F_X6_stairBetween at hF
  refine mm_Run_in (by decide) (by decide) (Nat.le_of_ble_eq_true rfl) ?_
  show mm_Ex (mm_Run X (d + 2)) 144 Q (0, [], [(0, .ref x0), (1, .int x1), (2, .int x2)], h) c k
  refine go_adv hX c_144 2 (F2 := (2, [], [(3, .int (ki 0)), (0, .ref x0), (1, .int x1), (2, .int x2)], h)) rfl ?_
  refine go_ls [(0, .ref x0), (1, .int x1), (2, .int x2), (3, .int (ki 0))] ⟨rfl, ⟨rfl, ⟨rfl, ⟨rfl, trivial⟩⟩⟩⟩ ?_
  obtain ⟨o10, e11, hF⟩ := mm_bind hF
  refine r_X6_stairBetween_L2 hX 1000 x0 x1 x2 (ki 0) o10 e11 ?_ ?_
  · intro o10r hr
    subst hr
    dsimp only at hF
    cases hF
    exact hQ
  · intro o10e he
    subst he
    dsimp only at hF
    refine go_adv hX c_144 1 (F2 := (31, [.int (ki (-1))], [], h)) rfl ?_
    cases hF
    exact go_iret hX c_144 rfl rfl rfl hQ
theorem c_145 : mm_cd 145 = k_X6_touches := rfl
def F_X6_touches (h : mm_S) (x0 : Nat) (x1 : Int32) (x2 : Int32) : Option Int32 :=
  (fx_is h x0 6).bind fun _ =>
  (F_X6_sv h x0 x1 (ki 0)).bind fun v2 =>
  if v2 = x2 then
    some (ki 1)
  else
    (fx_is h x0 6).bind fun _ =>
    (F_X6_sv h x0 x1 (ki 1)).bind fun v6 =>
    if v6 ≠ x2 then
      some (ki 0)
    else
      some (ki 1)
theorem r_X6_touches {X : mm_Cl} (hX : mm_mono X) {d c k : Nat} {Q : mm_Re → Prop} {h : mm_S} {x0 : Nat} {x1 : Int32} {x2 : Int32} {o : Int32} (hF : F_X6_touches h x0 x1 x2 = some o) (hQ : Q (.inl (some (.int o)), h)) : mm_Run X (d + 2) 145 c k [.ref x0, .int x1, .int x2] h Q := by
  unfold F_X6_touches at hF
  refine mm_Run_in (by decide) (by decide) (Nat.le_of_ble_eq_true rfl) ?_
  show mm_Ex (mm_Run X (d + 1)) 145 Q (0, [], [(0, .ref x0), (1, .int x1), (2, .int x2)], h) c k
  refine go_adv hX c_145 3 (F2 := (3, [.int (ki 0), .int x1, .ref x0], [(0, .ref x0), (1, .int x1), (2, .int x2)], h)) rfl ?_
  obtain ⟨_, e1, hF⟩ := mm_bind hF
  obtain ⟨v2, e3, hF⟩ := mm_bind hF
  refine go_cV hX (As := [.int x1, .int (ki 0)]) (rv := some (.int v2)) (h2 := h) (ci := 6) c_145 rfl (Nat.le_of_ble_eq_true rfl) rfl rfl e1 (by decide) (Nat.le_of_ble_eq_true rfl) (fun Q2 hQ2 => r_X6_sv hX (d := d) e3 hQ2) ?_
  refine go_adv hX c_145 1 (F2 := (7, [.int x2, .int v2], [(0, .ref x0), (1, .int x1), (2, .int x2)], h)) rfl ?_
  rcases mm_ite hF with ⟨hc4, hF⟩ | ⟨hc4, hF⟩
  · refine go_ct hX 20 c_145 rfl rfl hc4 ?_
    refine go_adv hX c_145 1 (F2 := (21, [.int (ki 1)], [(0, .ref x0), (1, .int x1), (2, .int x2)], h)) rfl ?_
    refine go_to hX 25 c_145 rfl rfl ?_
    cases hF
    exact go_iret hX c_145 rfl rfl (by decide) hQ
  · refine go_cf hX c_145 rfl (by decide) hc4 ?_
    refine go_adv hX c_145 3 (F2 := (13, [.int (ki 1), .int x1, .ref x0], [(0, .ref x0), (1, .int x1), (2, .int x2)], h)) rfl ?_
    obtain ⟨_, e5, hF⟩ := mm_bind hF
    obtain ⟨v6, e7, hF⟩ := mm_bind hF
    refine go_cV hX (As := [.int x1, .int (ki 1)]) (rv := some (.int v6)) (h2 := h) (ci := 6) c_145 rfl (Nat.le_of_ble_eq_true rfl) rfl rfl e5 (by decide) (Nat.le_of_ble_eq_true rfl) (fun Q2 hQ2 => r_X6_sv hX (d := d) e7 hQ2) ?_
    refine go_adv hX c_145 1 (F2 := (17, [.int x2, .int v6], [(0, .ref x0), (1, .int x1), (2, .int x2)], h)) rfl ?_
    rcases mm_ite hF with ⟨hc8, hF⟩ | ⟨hc8, hF⟩
    · refine go_ct hX 24 c_145 rfl rfl hc8 ?_
      refine go_adv hX c_145 1 (F2 := (25, [.int (ki 0)], [(0, .ref x0), (1, .int x1), (2, .int x2)], h)) rfl ?_
      cases hF
      exact go_iret hX c_145 rfl rfl (by decide) hQ
    · refine go_cf hX c_145 rfl (by decide) hc8 ?_
      refine go_adv hX c_145 1 (F2 := (21, [.int (ki 1)], [(0, .ref x0), (1, .int x1), (2, .int x2)], h)) rfl ?_
      refine go_to hX 25 c_145 rfl rfl ?_
      cases hF
      exact go_iret hX c_145 rfl rfl (by decide) hQ
theorem c_146 : mm_cd 146 = k_X6_across := rfl
def F_X6_across (h : mm_S) (x0 : Nat) (x1 : Int32) (x2 : Int32) : Option Int32 :=
  (fx_is h x0 6).bind fun _ =>
  (F_X6_sv h x0 x1 (ki 0)).bind fun v2 =>
  (fx_is h x0 6).bind fun _ =>
  (F_X6_sv h x0 x1 (ki 1)).bind fun v5 =>
  some ((v2 + v5) - x2)
theorem r_X6_across {X : mm_Cl} (hX : mm_mono X) {d c k : Nat} {Q : mm_Re → Prop} {h : mm_S} {x0 : Nat} {x1 : Int32} {x2 : Int32} {o : Int32} (hF : F_X6_across h x0 x1 x2 = some o) (hQ : Q (.inl (some (.int o)), h)) : mm_Run X (d + 2) 146 c k [.ref x0, .int x1, .int x2] h Q := by
  unfold F_X6_across at hF
  refine mm_Run_in (by decide) (by decide) (Nat.le_of_ble_eq_true rfl) ?_
  show mm_Ex (mm_Run X (d + 1)) 146 Q (0, [], [(0, .ref x0), (1, .int x1), (2, .int x2)], h) c k
  refine go_adv hX c_146 3 (F2 := (3, [.int (ki 0), .int x1, .ref x0], [(0, .ref x0), (1, .int x1), (2, .int x2)], h)) rfl ?_
  obtain ⟨_, e1, hF⟩ := mm_bind hF
  obtain ⟨v2, e3, hF⟩ := mm_bind hF
  refine go_cV hX (As := [.int x1, .int (ki 0)]) (rv := some (.int v2)) (h2 := h) (ci := 6) c_146 rfl (Nat.le_of_ble_eq_true rfl) rfl rfl e1 (by decide) (Nat.le_of_ble_eq_true rfl) (fun Q2 hQ2 => r_X6_sv hX (d := d) e3 hQ2) ?_
  refine go_adv hX c_146 3 (F2 := (9, [.int (ki 1), .int x1, .ref x0, .int v2], [(0, .ref x0), (1, .int x1), (2, .int x2)], h)) rfl ?_
  obtain ⟨_, e4, hF⟩ := mm_bind hF
  obtain ⟨v5, e6, hF⟩ := mm_bind hF
  refine go_cV hX (As := [.int x1, .int (ki 1)]) (rv := some (.int v5)) (h2 := h) (ci := 6) c_146 rfl (Nat.le_of_ble_eq_true rfl) rfl rfl e4 (by decide) (Nat.le_of_ble_eq_true rfl) (fun Q2 hQ2 => r_X6_sv hX (d := d) e6 hQ2) ?_
  refine go_adv hX c_146 3 (F2 := (15, [.int ((v2 + v5) - x2)], [(0, .ref x0), (1, .int x1), (2, .int x2)], h)) rfl ?_
  cases hF
  exact go_iret hX c_146 rfl rfl rfl hQ

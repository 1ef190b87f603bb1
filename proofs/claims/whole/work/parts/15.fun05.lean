theorem c_183 : mm_cd 183 = k_X6_giantOf := rfl
def F_X6_giantOf (h : mm_S) (x0 : Nat) (x1 : Int32) (x2 : Int32) : Option (Int32 × mm_S) :=
  (fx_pV h x0 6 5 (.int (ki 0))).bind fun h1 =>
  (F_X6_isGiant h1 x1).bind fun v3 =>
  if v3 ≠ 0 then
    if x2 = nI 0 then
      (fx_is h1 x0 6).bind fun _ =>
      (F_X6_gv h1 x0 x1 (ki 0)).bind fun v8 =>
      some (v8, h1)
    else if x2 = nI 1 then
      (fx_is h1 x0 6).bind fun _ =>
      (F_X6_gv h1 x0 x1 (ki 1)).bind fun v12 =>
      some (v12, h1)
    else if x2 = nI 2 then
      (fx_is h1 x0 6).bind fun _ =>
      (F_X6_landingsOf h1 x0 x1).bind fun v16 =>
      some (v16, h1)
    else if x2 = nI 3 then
      (fx_is h1 x0 6).bind fun _ =>
      (F_X6_gv h1 x0 x1 (ki 2)).bind fun v20 =>
      some (v20, h1)
    else if x2 = nI 4 then
      (fx_is h1 x0 6).bind fun _ =>
      (F_X6_leasedTo h1 x0 x1).bind fun v24 =>
      some (v24, h1)
    else if x2 = nI 5 then
      (fx_is h1 x0 6).bind fun _ =>
      (F_X6_gv h1 x0 x1 (ki 3)).bind fun v28 =>
      some (v28, h1)
    else if x2 = nI 6 then
      (fx_is h1 x0 6).bind fun _ =>
      (F_X6_gv h1 x0 x1 (ki 4)).bind fun v32 =>
      some (v32, h1)
    else
      (fx_is h1 x0 6).bind fun _ =>
      (F_X6_no h1 x0 (ki 2)).bind fun v35 =>
      some (v35.1, v35.2)
  else
    (fx_is h1 x0 6).bind fun _ =>
    (F_X6_no h1 x0 (ki 1)).bind fun v38 =>
    some (v38.1, v38.2)
theorem r_X6_giantOf {X : mm_Cl} (hX : mm_mono X) {d c k : Nat} {Q : mm_Re → Prop} {h : mm_S} {x0 : Nat} {x1 : Int32} {x2 : Int32} {o : (Int32 × mm_S)} (hF : F_X6_giantOf h x0 x1 x2 = some o) (hQ : Q (.inl (some (.int o.1)), o.2)) : mm_Run X (d + 3) 183 c k [.ref x0, .int x1, .int x2] h Q := by
  unfold F_X6_giantOf at hF
  refine mm_Run_in (by decide) (by decide) (Nat.le_of_ble_eq_true rfl) ?_
  show mm_Ex (mm_Run X (d + 2)) 183 Q (0, [], [(0, .ref x0), (1, .int x1), (2, .int x2)], h) c k
  refine go_adv hX c_183 2 (F2 := (2, [.int (ki 0), .ref x0], [(0, .ref x0), (1, .int x1), (2, .int x2)], h)) rfl ?_
  obtain ⟨h1, e2, hF⟩ := mm_bind hF
  refine go_pV hX c_183 rfl e2 ?_
  refine go_adv hX c_183 1 (F2 := (6, [.int x1], [(0, .ref x0), (1, .int x1), (2, .int x2)], h1)) rfl ?_
  obtain ⟨v3, e4, hF⟩ := mm_bind hF
  refine go_cS hX (As := [.int x1]) (rv := some (.int v3)) (h2 := h1) c_183 rfl (by decide) (Nat.le_of_ble_eq_true rfl) rfl rfl (Nat.le_of_ble_eq_true rfl) (fun Q2 hQ2 => r_X6_isGiant hX (d := d) e4 hQ2) ?_
  rcases mm_ite hF with ⟨hc5, hF⟩ | ⟨hc5, hF⟩
  · refine go_zt hX 18 c_183 rfl rfl hc5 ?_
    refine go_adv hX c_183 1 (F2 := (19, [.int x2], [(0, .ref x0), (1, .int x1), (2, .int x2)], h1)) rfl ?_
    rcases mm_ite hF with ⟨hc6, hF⟩ | ⟨hc6, hF⟩
    · refine go_sw hX 60 c_183 rfl hc6 (by decide) (by decide +kernel) ?_
      refine go_adv hX c_183 3 (F2 := (63, [.int (ki 0), .int x1, .ref x0], [(0, .ref x0), (1, .int x1), (2, .int x2)], h1)) rfl ?_
      obtain ⟨_, e7, hF⟩ := mm_bind hF
      obtain ⟨v8, e9, hF⟩ := mm_bind hF
      refine go_cV hX (As := [.int x1, .int (ki 0)]) (rv := some (.int v8)) (h2 := h1) (ci := 6) c_183 rfl (Nat.le_of_ble_eq_true rfl) rfl rfl e7 (by decide) (Nat.le_of_ble_eq_true rfl) (fun Q2 hQ2 => r_X6_gv hX (d := (d + 1)) e9 hQ2) ?_
      cases hF
      exact go_iret hX c_183 rfl rfl rfl hQ
    rcases mm_ite hF with ⟨hc10, hF⟩ | ⟨hc10, hF⟩
    · refine go_sw hX 67 c_183 rfl hc10 (by decide) (by decide +kernel) ?_
      refine go_adv hX c_183 3 (F2 := (70, [.int (ki 1), .int x1, .ref x0], [(0, .ref x0), (1, .int x1), (2, .int x2)], h1)) rfl ?_
      obtain ⟨_, e11, hF⟩ := mm_bind hF
      obtain ⟨v12, e13, hF⟩ := mm_bind hF
      refine go_cV hX (As := [.int x1, .int (ki 1)]) (rv := some (.int v12)) (h2 := h1) (ci := 6) c_183 rfl (Nat.le_of_ble_eq_true rfl) rfl rfl e11 (by decide) (Nat.le_of_ble_eq_true rfl) (fun Q2 hQ2 => r_X6_gv hX (d := (d + 1)) e13 hQ2) ?_
      cases hF
      exact go_iret hX c_183 rfl rfl rfl hQ
    rcases mm_ite hF with ⟨hc14, hF⟩ | ⟨hc14, hF⟩
    · refine go_sw hX 74 c_183 rfl hc14 (by decide) (by decide +kernel) ?_
      refine go_adv hX c_183 2 (F2 := (76, [.int x1, .ref x0], [(0, .ref x0), (1, .int x1), (2, .int x2)], h1)) rfl ?_
      obtain ⟨_, e15, hF⟩ := mm_bind hF
      obtain ⟨v16, e17, hF⟩ := mm_bind hF
      refine go_cV hX (As := [.int x1]) (rv := some (.int v16)) (h2 := h1) (ci := 6) c_183 rfl (Nat.le_of_ble_eq_true rfl) rfl rfl e15 (by decide) (Nat.le_of_ble_eq_true rfl) (fun Q2 hQ2 => r_X6_landingsOf hX (d := d) e17 hQ2) ?_
      cases hF
      exact go_iret hX c_183 rfl rfl rfl hQ
    rcases mm_ite hF with ⟨hc18, hF⟩ | ⟨hc18, hF⟩
    · refine go_sw hX 80 c_183 rfl hc18 (by decide) (by decide +kernel) ?_
      refine go_adv hX c_183 3 (F2 := (83, [.int (ki 2), .int x1, .ref x0], [(0, .ref x0), (1, .int x1), (2, .int x2)], h1)) rfl ?_
      obtain ⟨_, e19, hF⟩ := mm_bind hF
      obtain ⟨v20, e21, hF⟩ := mm_bind hF
      refine go_cV hX (As := [.int x1, .int (ki 2)]) (rv := some (.int v20)) (h2 := h1) (ci := 6) c_183 rfl (Nat.le_of_ble_eq_true rfl) rfl rfl e19 (by decide) (Nat.le_of_ble_eq_true rfl) (fun Q2 hQ2 => r_X6_gv hX (d := (d + 1)) e21 hQ2) ?_
      cases hF
      exact go_iret hX c_183 rfl rfl rfl hQ
    rcases mm_ite hF with ⟨hc22, hF⟩ | ⟨hc22, hF⟩
    · refine go_sw hX 87 c_183 rfl hc22 (by decide) (by decide +kernel) ?_
      refine go_adv hX c_183 2 (F2 := (89, [.int x1, .ref x0], [(0, .ref x0), (1, .int x1), (2, .int x2)], h1)) rfl ?_
      obtain ⟨_, e23, hF⟩ := mm_bind hF
      obtain ⟨v24, e25, hF⟩ := mm_bind hF
      refine go_cV hX (As := [.int x1]) (rv := some (.int v24)) (h2 := h1) (ci := 6) c_183 rfl (Nat.le_of_ble_eq_true rfl) rfl rfl e23 (by decide) (Nat.le_of_ble_eq_true rfl) (fun Q2 hQ2 => r_X6_leasedTo hX (d := d) e25 hQ2) ?_
      cases hF
      exact go_iret hX c_183 rfl rfl rfl hQ
    rcases mm_ite hF with ⟨hc26, hF⟩ | ⟨hc26, hF⟩
    · refine go_sw hX 93 c_183 rfl hc26 (by decide) (by decide +kernel) ?_
      refine go_adv hX c_183 3 (F2 := (96, [.int (ki 3), .int x1, .ref x0], [(0, .ref x0), (1, .int x1), (2, .int x2)], h1)) rfl ?_
      obtain ⟨_, e27, hF⟩ := mm_bind hF
      obtain ⟨v28, e29, hF⟩ := mm_bind hF
      refine go_cV hX (As := [.int x1, .int (ki 3)]) (rv := some (.int v28)) (h2 := h1) (ci := 6) c_183 rfl (Nat.le_of_ble_eq_true rfl) rfl rfl e27 (by decide) (Nat.le_of_ble_eq_true rfl) (fun Q2 hQ2 => r_X6_gv hX (d := (d + 1)) e29 hQ2) ?_
      cases hF
      exact go_iret hX c_183 rfl rfl rfl hQ
    rcases mm_ite hF with ⟨hc30, hF⟩ | ⟨hc30, hF⟩
    · refine go_sw hX 100 c_183 rfl hc30 (by decide) (by decide +kernel) ?_
      refine go_adv hX c_183 3 (F2 := (103, [.int (ki 4), .int x1, .ref x0], [(0, .ref x0), (1, .int x1), (2, .int x2)], h1)) rfl ?_
      obtain ⟨_, e31, hF⟩ := mm_bind hF
      obtain ⟨v32, e33, hF⟩ := mm_bind hF
      refine go_cV hX (As := [.int x1, .int (ki 4)]) (rv := some (.int v32)) (h2 := h1) (ci := 6) c_183 rfl (Nat.le_of_ble_eq_true rfl) rfl rfl e31 (by decide) (Nat.le_of_ble_eq_true rfl) (fun Q2 hQ2 => r_X6_gv hX (d := (d + 1)) e33 hQ2) ?_
      cases hF
      exact go_iret hX c_183 rfl rfl rfl hQ
    refine go_swd hX 7 107 c_183 rfl (by decide) rfl (by decide) (fun i hi => match i, hi with | 0, _ => hc6 | 1, _ => hc10 | 2, _ => hc14 | 3, _ => hc18 | 4, _ => hc22 | 5, _ => hc26 | 6, _ => hc30 | j + 7, hj => absurd hj (by omega)) (by decide) ?_
    refine go_adv hX c_183 2 (F2 := (109, [.int (ki 2), .ref x0], [(0, .ref x0), (1, .int x1), (2, .int x2)], h1)) rfl ?_
    obtain ⟨_, e34, hF⟩ := mm_bind hF
    obtain ⟨v35, e36, hF⟩ := mm_bind hF
    refine go_cV hX (As := [.int (ki 2)]) (rv := some (.int v35.1)) (h2 := v35.2) (ci := 6) c_183 rfl (Nat.le_of_ble_eq_true rfl) rfl rfl e34 (by decide) (Nat.le_of_ble_eq_true rfl) (fun Q2 hQ2 => r_X6_no hX (d := (d + 1)) e36 hQ2) ?_
    cases hF
    exact go_iret hX c_183 rfl rfl rfl hQ
  · refine go_zf hX c_183 rfl (by decide) hc5 ?_
    refine go_adv hX c_183 2 (F2 := (14, [.int (ki 1), .ref x0], [(0, .ref x0), (1, .int x1), (2, .int x2)], h1)) rfl ?_
    obtain ⟨_, e37, hF⟩ := mm_bind hF
    obtain ⟨v38, e39, hF⟩ := mm_bind hF
    refine go_cV hX (As := [.int (ki 1)]) (rv := some (.int v38.1)) (h2 := v38.2) (ci := 6) c_183 rfl (Nat.le_of_ble_eq_true rfl) rfl rfl e37 (by decide) (Nat.le_of_ble_eq_true rfl) (fun Q2 hQ2 => r_X6_no hX (d := (d + 1)) e39 hQ2) ?_
    cases hF
    exact go_iret hX c_183 rfl rfl rfl hQ
theorem c_184 : mm_cd 184 = k_X6_stairsAt := rfl
def F_X6_stairsAt_L4 (h : mm_S) : Nat → Nat → Int32 → Int32 → Int32 → Option Int32
  | 0, _, _, _, _ => none
  | n + 1, x0, x1, x2, x3 =>
    (fx_gR h x0 6 0).bind fun v1 =>
    (fx_aI h v1 (ki 0)).bind fun v3 =>
    if v3 ≤ x3 then
      some x2
    else
      (fx_is h x0 6).bind fun _ =>
      (F_X6_touches h x0 x3 x1).bind fun v7 =>
      if v7 = 0 then
        F_X6_stairsAt_L4 h n x0 x1 (x2 + (ki 0)) (x3 + ki 1)
      else
        F_X6_stairsAt_L4 h n x0 x1 (x2 + (ki 1)) (x3 + ki 1)
def F_X6_stairsAt (h : mm_S) (x0 : Nat) (x1 : Int32) : Option Int32 :=
  (F_X6_stairsAt_L4 h 1000 x0 x1 (ki 0) (ki 0)).bind fun o10 =>
  some o10
theorem r_X6_stairsAt_L4 {X : mm_Cl} (hX : mm_mono X) {d c k : Nat} {Q : mm_Re → Prop} {h : mm_S} : ∀ (n : Nat) (x0 : Nat) (x1 : Int32) (x2 : Int32) (x3 : Int32) (o : Int32), F_X6_stairsAt_L4 h n x0 x1 x2 x3 = some o → (mm_Ex (mm_Run X (d + 2)) 184 Q (37, [], [(2, .int o)], h) c k) → mm_Ex (mm_Run X (d + 2)) 184 Q (4, [], [(0, .ref x0), (1, .int x1), (2, .int x2), (3, .int x3)], h) c k := by
  intro n
  induction n with
  | zero => intro x0 x1 x2 x3 o hF; cases hF
  | succ n ih =>
    intro x0 x1 x2 x3 o hF hE
    unfold F_X6_stairsAt_L4 at hF
    refine go_adv hX c_184 2 (F2 := (6, [.ref x0, .int x3], [(0, .ref x0), (1, .int x1), (2, .int x2), (3, .int x3)], h)) rfl ?_
    obtain ⟨v1, e2, hF⟩ := mm_bind hF
    refine go_gR hX c_184 rfl e2 ?_
    refine go_adv hX c_184 1 (F2 := (10, [.int (ki 0), .ref v1, .int x3], [(0, .ref x0), (1, .int x1), (2, .int x2), (3, .int x3)], h)) rfl ?_
    obtain ⟨v3, e4, hF⟩ := mm_bind hF
    refine go_aI hX c_184 rfl e4 ?_
    rcases mm_ite hF with ⟨hc5, hF⟩ | ⟨hc5, hF⟩
    · refine go_ct hX 37 c_184 rfl rfl hc5 ?_
      cases hF
      refine go_ls [(2, .int x2)] ⟨rfl, trivial⟩ ?_
      exact hE
    · refine go_cf hX c_184 rfl (by decide) hc5 ?_
      refine go_adv hX c_184 4 (F2 := (18, [.int x1, .int x3, .ref x0, .int x2], [(0, .ref x0), (1, .int x1), (2, .int x2), (3, .int x3)], h)) rfl ?_
      obtain ⟨_, e6, hF⟩ := mm_bind hF
      obtain ⟨v7, e8, hF⟩ := mm_bind hF
      refine go_cV hX (As := [.int x3, .int x1]) (rv := some (.int v7)) (h2 := h) (ci := 6) c_184 rfl (Nat.le_of_ble_eq_true rfl) rfl rfl e6 (by decide) (Nat.le_of_ble_eq_true rfl) (fun Q2 hQ2 => r_X6_touches hX (d := d) e8 hQ2) ?_
      rcases mm_ite hF with ⟨hc9, hF⟩ | ⟨hc9, hF⟩
      · refine go_zt hX 28 c_184 rfl rfl hc9 ?_
        refine go_adv hX c_184 4 (F2 := (34, [], [(3, .int (x3 + ki 1)), (2, .int (x2 + (ki 0))), (0, .ref x0), (1, .int x1)], h)) rfl ?_
        refine go_to hX 4 c_184 rfl rfl ?_
        refine go_ls [(0, .ref x0), (1, .int x1), (2, .int (x2 + (ki 0))), (3, .int (x3 + ki 1))] ⟨rfl, ⟨rfl, ⟨rfl, ⟨rfl, trivial⟩⟩⟩⟩ ?_
        exact ih x0 x1 (x2 + (ki 0)) (x3 + ki 1) _ hF hE
      · refine go_zf hX c_184 rfl (by decide) hc9 ?_
        refine go_adv hX c_184 1 (F2 := (25, [.int (ki 1), .int x2], [(0, .ref x0), (1, .int x1), (2, .int x2), (3, .int x3)], h)) rfl ?_
        refine go_to hX 29 c_184 rfl rfl ?_
        refine go_adv hX c_184 3 (F2 := (34, [], [(3, .int (x3 + ki 1)), (2, .int (x2 + (ki 1))), (0, .ref x0), (1, .int x1)], h)) rfl ?_
        refine go_to hX 4 c_184 rfl rfl ?_
        refine go_ls [(0, .ref x0), (1, .int x1), (2, .int (x2 + (ki 1))), (3, .int (x3 + ki 1))] ⟨rfl, ⟨rfl, ⟨rfl, ⟨rfl, trivial⟩⟩⟩⟩ ?_
        exact ih x0 x1 (x2 + (ki 1)) (x3 + ki 1) _ hF hE
theorem r_X6_stairsAt {X : mm_Cl} (hX : mm_mono X) {d c k : Nat} {Q : mm_Re → Prop} {h : mm_S} {x0 : Nat} {x1 : Int32} {o : Int32} (hF : F_X6_stairsAt h x0 x1 = some o) (hQ : Q (.inl (some (.int o)), h)) : mm_Run X (d + 3) 184 c k [.ref x0, .int x1] h Q := by
  unfold F_X6_stairsAt at hF
  refine mm_Run_in (by decide) (by decide) (Nat.le_of_ble_eq_true rfl) ?_
  show mm_Ex (mm_Run X (d + 2)) 184 Q (0, [], [(0, .ref x0), (1, .int x1)], h) c k
  refine go_adv hX c_184 4 (F2 := (4, [], [(3, .int (ki 0)), (2, .int (ki 0)), (0, .ref x0), (1, .int x1)], h)) rfl ?_
  refine go_ls [(0, .ref x0), (1, .int x1), (2, .int (ki 0)), (3, .int (ki 0))] ⟨rfl, ⟨rfl, ⟨rfl, ⟨rfl, trivial⟩⟩⟩⟩ ?_
  obtain ⟨o10, e11, hF⟩ := mm_bind hF
  refine r_X6_stairsAt_L4 hX 1000 x0 x1 (ki 0) (ki 0) o10 e11 ?_
  refine go_adv hX c_184 1 (F2 := (38, [.int o10], [(2, .int o10)], h)) rfl ?_
  cases hF
  exact go_iret hX c_184 rfl rfl rfl hQ
theorem c_185 : mm_cd 185 = k_X6_joinedTo := rfl
def F_X6_joinedTo_L4 (h : mm_S) : Nat → Nat → Int32 → Int32 → Int32 → Option Int32
  | 0, _, _, _, _ => none
  | n + 1, x0, x1, x2, x3 =>
    (fx_gR h x0 6 0).bind fun v1 =>
    (fx_aI h v1 (ki 0)).bind fun v3 =>
    if v3 ≤ x3 then
      some x2
    else
      (fx_is h x0 6).bind fun _ =>
      (F_X6_touches h x0 x3 x1).bind fun v7 =>
      if v7 = 0 then
        F_X6_joinedTo_L4 h n x0 x1 (x2 ||| (ki 0)) (x3 + ki 1)
      else
        (fx_is h x0 6).bind fun _ =>
        (F_X6_across h x0 x3 x1).bind fun v11 =>
        F_X6_joinedTo_L4 h n x0 x1 (x2 ||| ((ki 1) <<< (v11 &&& 31))) (x3 + ki 1)
def F_X6_joinedTo (h : mm_S) (x0 : Nat) (x1 : Int32) : Option Int32 :=
  (F_X6_joinedTo_L4 h 1000 x0 x1 (ki 0) (ki 0)).bind fun o13 =>
  some o13
theorem r_X6_joinedTo_L4 {X : mm_Cl} (hX : mm_mono X) {d c k : Nat} {Q : mm_Re → Prop} {h : mm_S} : ∀ (n : Nat) (x0 : Nat) (x1 : Int32) (x2 : Int32) (x3 : Int32) (o : Int32), F_X6_joinedTo_L4 h n x0 x1 x2 x3 = some o → (mm_Ex (mm_Run X (d + 2)) 185 Q (44, [], [(2, .int o)], h) c k) → mm_Ex (mm_Run X (d + 2)) 185 Q (4, [], [(0, .ref x0), (1, .int x1), (2, .int x2), (3, .int x3)], h) c k := by
  intro n
  induction n with
  | zero => intro x0 x1 x2 x3 o hF; cases hF
  | succ n ih =>
    intro x0 x1 x2 x3 o hF hE
    unfold F_X6_joinedTo_L4 at hF
    refine go_adv hX c_185 2 (F2 := (6, [.ref x0, .int x3], [(0, .ref x0), (1, .int x1), (2, .int x2), (3, .int x3)], h)) rfl ?_
    obtain ⟨v1, e2, hF⟩ := mm_bind hF
    refine go_gR hX c_185 rfl e2 ?_
    refine go_adv hX c_185 1 (F2 := (10, [.int (ki 0), .ref v1, .int x3], [(0, .ref x0), (1, .int x1), (2, .int x2), (3, .int x3)], h)) rfl ?_
    obtain ⟨v3, e4, hF⟩ := mm_bind hF
    refine go_aI hX c_185 rfl e4 ?_
    rcases mm_ite hF with ⟨hc5, hF⟩ | ⟨hc5, hF⟩
    · refine go_ct hX 44 c_185 rfl rfl hc5 ?_
      cases hF
      refine go_ls [(2, .int x2)] ⟨rfl, trivial⟩ ?_
      exact hE
    · refine go_cf hX c_185 rfl (by decide) hc5 ?_
      refine go_adv hX c_185 4 (F2 := (18, [.int x1, .int x3, .ref x0, .int x2], [(0, .ref x0), (1, .int x1), (2, .int x2), (3, .int x3)], h)) rfl ?_
      obtain ⟨_, e6, hF⟩ := mm_bind hF
      obtain ⟨v7, e8, hF⟩ := mm_bind hF
      refine go_cV hX (As := [.int x3, .int x1]) (rv := some (.int v7)) (h2 := h) (ci := 6) c_185 rfl (Nat.le_of_ble_eq_true rfl) rfl rfl e6 (by decide) (Nat.le_of_ble_eq_true rfl) (fun Q2 hQ2 => r_X6_touches hX (d := d) e8 hQ2) ?_
      rcases mm_ite hF with ⟨hc9, hF⟩ | ⟨hc9, hF⟩
      · refine go_zt hX 35 c_185 rfl rfl hc9 ?_
        refine go_adv hX c_185 4 (F2 := (41, [], [(3, .int (x3 + ki 1)), (2, .int (x2 ||| (ki 0))), (0, .ref x0), (1, .int x1)], h)) rfl ?_
        refine go_to hX 4 c_185 rfl rfl ?_
        refine go_ls [(0, .ref x0), (1, .int x1), (2, .int (x2 ||| (ki 0))), (3, .int (x3 + ki 1))] ⟨rfl, ⟨rfl, ⟨rfl, ⟨rfl, trivial⟩⟩⟩⟩ ?_
        exact ih x0 x1 (x2 ||| (ki 0)) (x3 + ki 1) _ hF hE
      · refine go_zf hX c_185 rfl (by decide) hc9 ?_
        refine go_adv hX c_185 4 (F2 := (28, [.int x1, .int x3, .ref x0, .int (ki 1), .int x2], [(0, .ref x0), (1, .int x1), (2, .int x2), (3, .int x3)], h)) rfl ?_
        obtain ⟨_, e10, hF⟩ := mm_bind hF
        obtain ⟨v11, e12, hF⟩ := mm_bind hF
        refine go_cV hX (As := [.int x3, .int x1]) (rv := some (.int v11)) (h2 := h) (ci := 6) c_185 rfl (Nat.le_of_ble_eq_true rfl) rfl rfl e10 (by decide) (Nat.le_of_ble_eq_true rfl) (fun Q2 hQ2 => r_X6_across hX (d := d) e12 hQ2) ?_
        refine go_adv hX c_185 1 (F2 := (32, [.int ((ki 1) <<< (v11 &&& 31)), .int x2], [(0, .ref x0), (1, .int x1), (2, .int x2), (3, .int x3)], h)) rfl ?_
        refine go_to hX 36 c_185 rfl rfl ?_
        refine go_adv hX c_185 3 (F2 := (41, [], [(3, .int (x3 + ki 1)), (2, .int (x2 ||| ((ki 1) <<< (v11 &&& 31)))), (0, .ref x0), (1, .int x1)], h)) rfl ?_
        refine go_to hX 4 c_185 rfl rfl ?_
        refine go_ls [(0, .ref x0), (1, .int x1), (2, .int (x2 ||| ((ki 1) <<< (v11 &&& 31)))), (3, .int (x3 + ki 1))] ⟨rfl, ⟨rfl, ⟨rfl, ⟨rfl, trivial⟩⟩⟩⟩ ?_
        exact ih x0 x1 (x2 ||| ((ki 1) <<< (v11 &&& 31))) (x3 + ki 1) _ hF hE
theorem r_X6_joinedTo {X : mm_Cl} (hX : mm_mono X) {d c k : Nat} {Q : mm_Re → Prop} {h : mm_S} {x0 : Nat} {x1 : Int32} {o : Int32} (hF : F_X6_joinedTo h x0 x1 = some o) (hQ : Q (.inl (some (.int o)), h)) : mm_Run X (d + 3) 185 c k [.ref x0, .int x1] h Q := by
  unfold F_X6_joinedTo at hF
  refine mm_Run_in (by decide) (by decide) (Nat.le_of_ble_eq_true rfl) ?_
  show mm_Ex (mm_Run X (d + 2)) 185 Q (0, [], [(0, .ref x0), (1, .int x1)], h) c k
  refine go_adv hX c_185 4 (F2 := (4, [], [(3, .int (ki 0)), (2, .int (ki 0)), (0, .ref x0), (1, .int x1)], h)) rfl ?_
  refine go_ls [(0, .ref x0), (1, .int x1), (2, .int (ki 0)), (3, .int (ki 0))] ⟨rfl, ⟨rfl, ⟨rfl, ⟨rfl, trivial⟩⟩⟩⟩ ?_
  obtain ⟨o13, e14, hF⟩ := mm_bind hF
  refine r_X6_joinedTo_L4 hX 1000 x0 x1 (ki 0) (ki 0) o13 e14 ?_
  refine go_adv hX c_185 1 (F2 := (45, [.int o13], [(2, .int o13)], h)) rfl ?_
  cases hF
  exact go_iret hX c_185 rfl rfl rfl hQ
theorem c_186 : mm_cd 186 = k_X6_landingOf := rfl
def F_X6_landingOf (h : mm_S) (x0 : Nat) (x1 : Int32) (x2 : Int32) : Option (Int32 × mm_S) :=
  (fx_pV h x0 6 5 (.int (ki 0))).bind fun h1 =>
  (F_X6_isLanding h1 x1).bind fun v3 =>
  if v3 ≠ 0 then
    if x2 = nI 0 then
      (fx_is h1 x0 6).bind fun _ =>
      (F_X6_owner h1 x0 x1).bind fun v8 =>
      some (v8, h1)
    else if x2 = nI 1 then
      (fx_is h1 x0 6).bind fun _ =>
      (F_X6_stairsAt h1 x0 x1).bind fun v12 =>
      some (v12, h1)
    else if x2 = nI 2 then
      (fx_is h1 x0 6).bind fun _ =>
      (F_X6_standing h1 x0 x1).bind fun v16 =>
      some (v16, h1)
    else if x2 = nI 3 then
      (fx_is h1 x0 6).bind fun _ =>
      (F_X6_joinedTo h1 x0 x1).bind fun v20 =>
      some (v20, h1)
    else
      (fx_is h1 x0 6).bind fun _ =>
      (F_X6_no h1 x0 (ki 2)).bind fun v23 =>
      some (v23.1, v23.2)
  else
    (fx_is h1 x0 6).bind fun _ =>
    (F_X6_no h1 x0 (ki 1)).bind fun v26 =>
    some (v26.1, v26.2)
theorem r_X6_landingOf {X : mm_Cl} (hX : mm_mono X) {d c k : Nat} {Q : mm_Re → Prop} {h : mm_S} {x0 : Nat} {x1 : Int32} {x2 : Int32} {o : (Int32 × mm_S)} (hF : F_X6_landingOf h x0 x1 x2 = some o) (hQ : Q (.inl (some (.int o.1)), o.2)) : mm_Run X (d + 4) 186 c k [.ref x0, .int x1, .int x2] h Q := by
  unfold F_X6_landingOf at hF
  refine mm_Run_in (by decide) (by decide) (Nat.le_of_ble_eq_true rfl) ?_
  show mm_Ex (mm_Run X (d + 3)) 186 Q (0, [], [(0, .ref x0), (1, .int x1), (2, .int x2)], h) c k
  refine go_adv hX c_186 2 (F2 := (2, [.int (ki 0), .ref x0], [(0, .ref x0), (1, .int x1), (2, .int x2)], h)) rfl ?_
  obtain ⟨h1, e2, hF⟩ := mm_bind hF
  refine go_pV hX c_186 rfl e2 ?_
  refine go_adv hX c_186 1 (F2 := (6, [.int x1], [(0, .ref x0), (1, .int x1), (2, .int x2)], h1)) rfl ?_
  obtain ⟨v3, e4, hF⟩ := mm_bind hF
  refine go_cS hX (As := [.int x1]) (rv := some (.int v3)) (h2 := h1) c_186 rfl (by decide) (Nat.le_of_ble_eq_true rfl) rfl rfl (Nat.le_of_ble_eq_true rfl) (fun Q2 hQ2 => r_X6_isLanding hX (d := (d + 1)) e4 hQ2) ?_
  rcases mm_ite hF with ⟨hc5, hF⟩ | ⟨hc5, hF⟩
  · refine go_zt hX 18 c_186 rfl rfl hc5 ?_
    refine go_adv hX c_186 1 (F2 := (19, [.int x2], [(0, .ref x0), (1, .int x1), (2, .int x2)], h1)) rfl ?_
    rcases mm_ite hF with ⟨hc6, hF⟩ | ⟨hc6, hF⟩
    · refine go_sw hX 48 c_186 rfl hc6 (by decide) (by decide +kernel) ?_
      refine go_adv hX c_186 2 (F2 := (50, [.int x1, .ref x0], [(0, .ref x0), (1, .int x1), (2, .int x2)], h1)) rfl ?_
      obtain ⟨_, e7, hF⟩ := mm_bind hF
      obtain ⟨v8, e9, hF⟩ := mm_bind hF
      refine go_cV hX (As := [.int x1]) (rv := some (.int v8)) (h2 := h1) (ci := 6) c_186 rfl (Nat.le_of_ble_eq_true rfl) rfl rfl e7 (by decide) (Nat.le_of_ble_eq_true rfl) (fun Q2 hQ2 => r_X6_owner hX (d := (d + 2)) e9 hQ2) ?_
      cases hF
      exact go_iret hX c_186 rfl rfl rfl hQ
    rcases mm_ite hF with ⟨hc10, hF⟩ | ⟨hc10, hF⟩
    · refine go_sw hX 54 c_186 rfl hc10 (by decide) (by decide +kernel) ?_
      refine go_adv hX c_186 2 (F2 := (56, [.int x1, .ref x0], [(0, .ref x0), (1, .int x1), (2, .int x2)], h1)) rfl ?_
      obtain ⟨_, e11, hF⟩ := mm_bind hF
      obtain ⟨v12, e13, hF⟩ := mm_bind hF
      refine go_cV hX (As := [.int x1]) (rv := some (.int v12)) (h2 := h1) (ci := 6) c_186 rfl (Nat.le_of_ble_eq_true rfl) rfl rfl e11 (by decide) (Nat.le_of_ble_eq_true rfl) (fun Q2 hQ2 => r_X6_stairsAt hX (d := d) e13 hQ2) ?_
      cases hF
      exact go_iret hX c_186 rfl rfl rfl hQ
    rcases mm_ite hF with ⟨hc14, hF⟩ | ⟨hc14, hF⟩
    · refine go_sw hX 60 c_186 rfl hc14 (by decide) (by decide +kernel) ?_
      refine go_adv hX c_186 2 (F2 := (62, [.int x1, .ref x0], [(0, .ref x0), (1, .int x1), (2, .int x2)], h1)) rfl ?_
      obtain ⟨_, e15, hF⟩ := mm_bind hF
      obtain ⟨v16, e17, hF⟩ := mm_bind hF
      refine go_cV hX (As := [.int x1]) (rv := some (.int v16)) (h2 := h1) (ci := 6) c_186 rfl (Nat.le_of_ble_eq_true rfl) rfl rfl e15 (by decide) (Nat.le_of_ble_eq_true rfl) (fun Q2 hQ2 => r_X6_standing hX (d := (d + 1)) e17 hQ2) ?_
      cases hF
      exact go_iret hX c_186 rfl rfl rfl hQ
    rcases mm_ite hF with ⟨hc18, hF⟩ | ⟨hc18, hF⟩
    · refine go_sw hX 66 c_186 rfl hc18 (by decide) (by decide +kernel) ?_
      refine go_adv hX c_186 2 (F2 := (68, [.int x1, .ref x0], [(0, .ref x0), (1, .int x1), (2, .int x2)], h1)) rfl ?_
      obtain ⟨_, e19, hF⟩ := mm_bind hF
      obtain ⟨v20, e21, hF⟩ := mm_bind hF
      refine go_cV hX (As := [.int x1]) (rv := some (.int v20)) (h2 := h1) (ci := 6) c_186 rfl (Nat.le_of_ble_eq_true rfl) rfl rfl e19 (by decide) (Nat.le_of_ble_eq_true rfl) (fun Q2 hQ2 => r_X6_joinedTo hX (d := d) e21 hQ2) ?_
      cases hF
      exact go_iret hX c_186 rfl rfl rfl hQ
    refine go_swd hX 4 72 c_186 rfl (by decide) rfl (by decide) (fun i hi => match i, hi with | 0, _ => hc6 | 1, _ => hc10 | 2, _ => hc14 | 3, _ => hc18 | j + 4, hj => absurd hj (by omega)) (by decide) ?_
    refine go_adv hX c_186 2 (F2 := (74, [.int (ki 2), .ref x0], [(0, .ref x0), (1, .int x1), (2, .int x2)], h1)) rfl ?_
    obtain ⟨_, e22, hF⟩ := mm_bind hF
    obtain ⟨v23, e24, hF⟩ := mm_bind hF
    refine go_cV hX (As := [.int (ki 2)]) (rv := some (.int v23.1)) (h2 := v23.2) (ci := 6) c_186 rfl (Nat.le_of_ble_eq_true rfl) rfl rfl e22 (by decide) (Nat.le_of_ble_eq_true rfl) (fun Q2 hQ2 => r_X6_no hX (d := (d + 2)) e24 hQ2) ?_
    cases hF
    exact go_iret hX c_186 rfl rfl rfl hQ
  · refine go_zf hX c_186 rfl (by decide) hc5 ?_
    refine go_adv hX c_186 2 (F2 := (14, [.int (ki 1), .ref x0], [(0, .ref x0), (1, .int x1), (2, .int x2)], h1)) rfl ?_
    obtain ⟨_, e25, hF⟩ := mm_bind hF
    obtain ⟨v26, e27, hF⟩ := mm_bind hF
    refine go_cV hX (As := [.int (ki 1)]) (rv := some (.int v26.1)) (h2 := v26.2) (ci := 6) c_186 rfl (Nat.le_of_ble_eq_true rfl) rfl rfl e25 (by decide) (Nat.le_of_ble_eq_true rfl) (fun Q2 hQ2 => r_X6_no hX (d := (d + 2)) e27 hQ2) ?_
    cases hF
    exact go_iret hX c_186 rfl rfl rfl hQ
theorem c_187 : mm_cd 187 = k_X6_stairOf := rfl
def F_X6_stairOf (h : mm_S) (x0 : Nat) (x1 : Int32) (x2 : Int32) : Option (Int32 × mm_S) :=
  (fx_pV h x0 6 5 (.int (ki 0))).bind fun h1 =>
  (fx_is h1 x0 6).bind fun _ =>
  (F_X6_isStair h1 x0 x1).bind fun v4 =>
  if v4 ≠ 0 then
    (F_X6_in h1 x2 (ki 0) (kb 7)).bind fun v7 =>
    if v7 ≠ 0 then
      if x2 ≠ (kb 7) then
        (fx_is h1 x0 6).bind fun _ =>
        (F_X6_sv h1 x0 x1 x2).bind fun v12 =>
        some (v12, h1)
      else
        (fx_is h1 x0 6).bind fun _ =>
        (F_X6_rentOf h1 x0 x1).bind fun v15 =>
        some (v15, h1)
    else
      (fx_is h1 x0 6).bind fun _ =>
      (F_X6_no h1 x0 (ki 2)).bind fun v18 =>
      some (v18.1, v18.2)
  else
    (fx_is h1 x0 6).bind fun _ =>
    (F_X6_no h1 x0 (ki 1)).bind fun v21 =>
    some (v21.1, v21.2)
theorem r_X6_stairOf {X : mm_Cl} (hX : mm_mono X) {d c k : Nat} {Q : mm_Re → Prop} {h : mm_S} {x0 : Nat} {x1 : Int32} {x2 : Int32} {o : (Int32 × mm_S)} (hF : F_X6_stairOf h x0 x1 x2 = some o) (hQ : Q (.inl (some (.int o.1)), o.2)) : mm_Run X (d + 3) 187 c k [.ref x0, .int x1, .int x2] h Q := by
  unfold F_X6_stairOf at hF
  refine mm_Run_in (by decide) (by decide) (Nat.le_of_ble_eq_true rfl) ?_
  show mm_Ex (mm_Run X (d + 2)) 187 Q (0, [], [(0, .ref x0), (1, .int x1), (2, .int x2)], h) c k
  refine go_adv hX c_187 2 (F2 := (2, [.int (ki 0), .ref x0], [(0, .ref x0), (1, .int x1), (2, .int x2)], h)) rfl ?_
  obtain ⟨h1, e2, hF⟩ := mm_bind hF
  refine go_pV hX c_187 rfl e2 ?_
  refine go_adv hX c_187 2 (F2 := (7, [.int x1, .ref x0], [(0, .ref x0), (1, .int x1), (2, .int x2)], h1)) rfl ?_
  obtain ⟨_, e3, hF⟩ := mm_bind hF
  obtain ⟨v4, e5, hF⟩ := mm_bind hF
  refine go_cV hX (As := [.int x1]) (rv := some (.int v4)) (h2 := h1) (ci := 6) c_187 rfl (Nat.le_of_ble_eq_true rfl) rfl rfl e3 (by decide) (Nat.le_of_ble_eq_true rfl) (fun Q2 hQ2 => r_X6_isStair hX (d := d) e5 hQ2) ?_
  rcases mm_ite hF with ⟨hc6, hF⟩ | ⟨hc6, hF⟩
  · refine go_zt hX 19 c_187 rfl rfl hc6 ?_
    refine go_adv hX c_187 3 (F2 := (23, [.int (kb 7), .int (ki 0), .int x2], [(0, .ref x0), (1, .int x1), (2, .int x2)], h1)) rfl ?_
    obtain ⟨v7, e8, hF⟩ := mm_bind hF
    refine go_cS hX (As := [.int x2, .int (ki 0), .int (kb 7)]) (rv := some (.int v7)) (h2 := h1) c_187 rfl (by decide) (Nat.le_of_ble_eq_true rfl) rfl rfl (Nat.le_of_ble_eq_true rfl) (fun Q2 hQ2 => r_X6_in hX (d := (d + 1)) e8 hQ2) ?_
    rcases mm_ite hF with ⟨hc9, hF⟩ | ⟨hc9, hF⟩
    · refine go_zt hX 35 c_187 rfl rfl hc9 ?_
      refine go_adv hX c_187 2 (F2 := (38, [.int (kb 7), .int x2], [(0, .ref x0), (1, .int x1), (2, .int x2)], h1)) rfl ?_
      rcases mm_ite hF with ⟨hc10, hF⟩ | ⟨hc10, hF⟩
      · refine go_ct hX 49 c_187 rfl rfl hc10 ?_
        refine go_adv hX c_187 3 (F2 := (52, [.int x2, .int x1, .ref x0], [(0, .ref x0), (1, .int x1), (2, .int x2)], h1)) rfl ?_
        obtain ⟨_, e11, hF⟩ := mm_bind hF
        obtain ⟨v12, e13, hF⟩ := mm_bind hF
        refine go_cV hX (As := [.int x1, .int x2]) (rv := some (.int v12)) (h2 := h1) (ci := 6) c_187 rfl (Nat.le_of_ble_eq_true rfl) rfl rfl e11 (by decide) (Nat.le_of_ble_eq_true rfl) (fun Q2 hQ2 => r_X6_sv hX (d := (d + 1)) e13 hQ2) ?_
        cases hF
        exact go_iret hX c_187 rfl rfl rfl hQ
      · refine go_cf hX c_187 rfl (by decide) hc10 ?_
        refine go_adv hX c_187 2 (F2 := (43, [.int x1, .ref x0], [(0, .ref x0), (1, .int x1), (2, .int x2)], h1)) rfl ?_
        obtain ⟨_, e14, hF⟩ := mm_bind hF
        obtain ⟨v15, e16, hF⟩ := mm_bind hF
        refine go_cV hX (As := [.int x1]) (rv := some (.int v15)) (h2 := h1) (ci := 6) c_187 rfl (Nat.le_of_ble_eq_true rfl) rfl rfl e14 (by decide) (Nat.le_of_ble_eq_true rfl) (fun Q2 hQ2 => r_X6_rentOf hX (d := d) e16 hQ2) ?_
        refine go_to hX 55 c_187 rfl rfl ?_
        cases hF
        exact go_iret hX c_187 rfl rfl rfl hQ
    · refine go_zf hX c_187 rfl (by decide) hc9 ?_
      refine go_adv hX c_187 2 (F2 := (31, [.int (ki 2), .ref x0], [(0, .ref x0), (1, .int x1), (2, .int x2)], h1)) rfl ?_
      obtain ⟨_, e17, hF⟩ := mm_bind hF
      obtain ⟨v18, e19, hF⟩ := mm_bind hF
      refine go_cV hX (As := [.int (ki 2)]) (rv := some (.int v18.1)) (h2 := v18.2) (ci := 6) c_187 rfl (Nat.le_of_ble_eq_true rfl) rfl rfl e17 (by decide) (Nat.le_of_ble_eq_true rfl) (fun Q2 hQ2 => r_X6_no hX (d := (d + 1)) e19 hQ2) ?_
      cases hF
      exact go_iret hX c_187 rfl rfl rfl hQ
  · refine go_zf hX c_187 rfl (by decide) hc6 ?_
    refine go_adv hX c_187 2 (F2 := (15, [.int (ki 1), .ref x0], [(0, .ref x0), (1, .int x1), (2, .int x2)], h1)) rfl ?_
    obtain ⟨_, e20, hF⟩ := mm_bind hF
    obtain ⟨v21, e22, hF⟩ := mm_bind hF
    refine go_cV hX (As := [.int (ki 1)]) (rv := some (.int v21.1)) (h2 := v21.2) (ci := 6) c_187 rfl (Nat.le_of_ble_eq_true rfl) rfl rfl e20 (by decide) (Nat.le_of_ble_eq_true rfl) (fun Q2 hQ2 => r_X6_no hX (d := (d + 1)) e22 hQ2) ?_
    cases hF
    exact go_iret hX c_187 rfl rfl rfl hQ
theorem c_188 : mm_cd 188 = k_X6_between := rfl
def F_X6_between (h : mm_S) (x0 : Nat) (x1 : Int32) (x2 : Int32) : Option (Int32 × mm_S) :=
  (fx_pV h x0 6 5 (.int (ki 0))).bind fun h1 =>
  (F_X6_isLanding h1 x1).bind fun v3 =>
  if v3 = 0 then
    (fx_is h1 x0 6).bind fun _ =>
    (F_X6_no h1 x0 (ki 1)).bind fun v7 =>
    some (v7.1, v7.2)
  else
    (F_X6_isLanding h1 x2).bind fun v9 =>
    if v9 ≠ 0 then
      (fx_is h1 x0 6).bind fun _ =>
      (F_X6_stairBetween h1 x0 x1 x2).bind fun v13 =>
      if 0 ≤ v13 then
        some (v13, h1)
      else
        (fx_is h1 x0 6).bind fun _ =>
        (F_X6_no h1 x0 (ki 2)).bind fun v17 =>
        some (v17.1, v17.2)
    else
      (fx_is h1 x0 6).bind fun _ =>
      (F_X6_no h1 x0 (ki 1)).bind fun v20 =>
      some (v20.1, v20.2)
theorem r_X6_between {X : mm_Cl} (hX : mm_mono X) {d c k : Nat} {Q : mm_Re → Prop} {h : mm_S} {x0 : Nat} {x1 : Int32} {x2 : Int32} {o : (Int32 × mm_S)} (hF : F_X6_between h x0 x1 x2 = some o) (hQ : Q (.inl (some (.int o.1)), o.2)) : mm_Run X (d + 4) 188 c k [.ref x0, .int x1, .int x2] h Q := by
  unfold F_X6_between at hF
  refine mm_Run_in (by decide) (by decide) (Nat.le_of_ble_eq_true rfl) ?_
  show mm_Ex (mm_Run X (d + 3)) 188 Q (0, [], [(0, .ref x0), (1, .int x1), (2, .int x2)], h) c k
  refine go_adv hX c_188 2 (F2 := (2, [.int (ki 0), .ref x0], [(0, .ref x0), (1, .int x1), (2, .int x2)], h)) rfl ?_
  obtain ⟨h1, e2, hF⟩ := mm_bind hF
  refine go_pV hX c_188 rfl e2 ?_
  refine go_adv hX c_188 1 (F2 := (6, [.int x1], [(0, .ref x0), (1, .int x1), (2, .int x2)], h1)) rfl ?_
  obtain ⟨v3, e4, hF⟩ := mm_bind hF
  refine go_cS hX (As := [.int x1]) (rv := some (.int v3)) (h2 := h1) c_188 rfl (by decide) (Nat.le_of_ble_eq_true rfl) rfl rfl (Nat.le_of_ble_eq_true rfl) (fun Q2 hQ2 => r_X6_isLanding hX (d := (d + 1)) e4 hQ2) ?_
  rcases mm_ite hF with ⟨hc5, hF⟩ | ⟨hc5, hF⟩
  · refine go_zt hX 19 c_188 rfl rfl hc5 ?_
    refine go_adv hX c_188 2 (F2 := (21, [.int (ki 1), .ref x0], [(0, .ref x0), (1, .int x1), (2, .int x2)], h1)) rfl ?_
    obtain ⟨_, e6, hF⟩ := mm_bind hF
    obtain ⟨v7, e8, hF⟩ := mm_bind hF
    refine go_cV hX (As := [.int (ki 1)]) (rv := some (.int v7.1)) (h2 := v7.2) (ci := 6) c_188 rfl (Nat.le_of_ble_eq_true rfl) rfl rfl e6 (by decide) (Nat.le_of_ble_eq_true rfl) (fun Q2 hQ2 => r_X6_no hX (d := (d + 2)) e8 hQ2) ?_
    cases hF
    exact go_iret hX c_188 rfl rfl rfl hQ
  · refine go_zf hX c_188 rfl (by decide) hc5 ?_
    refine go_adv hX c_188 1 (F2 := (13, [.int x2], [(0, .ref x0), (1, .int x1), (2, .int x2)], h1)) rfl ?_
    obtain ⟨v9, e10, hF⟩ := mm_bind hF
    refine go_cS hX (As := [.int x2]) (rv := some (.int v9)) (h2 := h1) c_188 rfl (by decide) (Nat.le_of_ble_eq_true rfl) rfl rfl (Nat.le_of_ble_eq_true rfl) (fun Q2 hQ2 => r_X6_isLanding hX (d := (d + 1)) e10 hQ2) ?_
    rcases mm_ite hF with ⟨hc11, hF⟩ | ⟨hc11, hF⟩
    · refine go_zt hX 25 c_188 rfl rfl hc11 ?_
      refine go_adv hX c_188 3 (F2 := (28, [.int x2, .int x1, .ref x0], [(0, .ref x0), (1, .int x1), (2, .int x2)], h1)) rfl ?_
      obtain ⟨_, e12, hF⟩ := mm_bind hF
      obtain ⟨v13, e14, hF⟩ := mm_bind hF
      refine go_cV hX (As := [.int x1, .int x2]) (rv := some (.int v13)) (h2 := h1) (ci := 6) c_188 rfl (Nat.le_of_ble_eq_true rfl) rfl rfl e12 (by decide) (Nat.le_of_ble_eq_true rfl) (fun Q2 hQ2 => r_X6_stairBetween hX (d := d) e14 hQ2) ?_
      refine go_adv hX c_188 2 (F2 := (33, [.int v13], [(3, .int v13), (0, .ref x0), (1, .int x1), (2, .int x2)], h1)) rfl ?_
      rcases mm_ite hF with ⟨hc15, hF⟩ | ⟨hc15, hF⟩
      · refine go_zt hX 44 c_188 rfl rfl hc15 ?_
        refine go_adv hX c_188 1 (F2 := (45, [.int v13], [(3, .int v13), (0, .ref x0), (1, .int x1), (2, .int x2)], h1)) rfl ?_
        cases hF
        exact go_iret hX c_188 rfl rfl rfl hQ
      · refine go_zf hX c_188 rfl (by decide) hc15 ?_
        refine go_adv hX c_188 2 (F2 := (38, [.int (ki 2), .ref x0], [(3, .int v13), (0, .ref x0), (1, .int x1), (2, .int x2)], h1)) rfl ?_
        obtain ⟨_, e16, hF⟩ := mm_bind hF
        obtain ⟨v17, e18, hF⟩ := mm_bind hF
        refine go_cV hX (As := [.int (ki 2)]) (rv := some (.int v17.1)) (h2 := v17.2) (ci := 6) c_188 rfl (Nat.le_of_ble_eq_true rfl) rfl rfl e16 (by decide) (Nat.le_of_ble_eq_true rfl) (fun Q2 hQ2 => r_X6_no hX (d := (d + 2)) e18 hQ2) ?_
        refine go_to hX 45 c_188 rfl rfl ?_
        cases hF
        exact go_iret hX c_188 rfl rfl rfl hQ
    · refine go_zf hX c_188 rfl (by decide) hc11 ?_
      refine go_adv hX c_188 2 (F2 := (21, [.int (ki 1), .ref x0], [(0, .ref x0), (1, .int x1), (2, .int x2)], h1)) rfl ?_
      obtain ⟨_, e19, hF⟩ := mm_bind hF
      obtain ⟨v20, e21, hF⟩ := mm_bind hF
      refine go_cV hX (As := [.int (ki 1)]) (rv := some (.int v20.1)) (h2 := v20.2) (ci := 6) c_188 rfl (Nat.le_of_ble_eq_true rfl) rfl rfl e19 (by decide) (Nat.le_of_ble_eq_true rfl) (fun Q2 hQ2 => r_X6_no hX (d := (d + 2)) e21 hQ2) ?_
      cases hF
      exact go_iret hX c_188 rfl rfl rfl hQ
theorem c_189 : mm_cd 189 = k_X6_breaths := rfl
def F_X6_breaths (h : mm_S) (x0 : Nat) (x1 : Int32) (x2 : Int32) : Option (Int32 × mm_S) :=
  (F_X6_isGiant h x1).bind fun v1 =>
  if v1 = 0 then
    (fx_pV h x0 6 5 (.int (ki 1))).bind fun h4 =>
    (fx_gI h4 x0 6 5).bind fun v6 =>
    if v6 ≤ 0 then
      (fx_is h4 x0 6).bind fun _ =>
      (F_X6_takesBreaths h4 x0 x1 x2).bind fun v10 =>
      some (v10, h4)
    else
      some (ki 0, h4)
  else
    (fx_is h x0 6).bind fun _ =>
    (F_X6_isStair h x0 x2).bind fun v13 =>
    if v13 = 0 then
      (fx_pV h x0 6 5 (.int (ki 1))).bind fun h16 =>
      (fx_gI h16 x0 6 5).bind fun v18 =>
      if v18 ≤ 0 then
        (fx_is h16 x0 6).bind fun _ =>
        (F_X6_takesBreaths h16 x0 x1 x2).bind fun v22 =>
        some (v22, h16)
      else
        some (ki 0, h16)
    else
      (fx_pV h x0 6 5 (.int (ki 0))).bind fun h24 =>
      (fx_gI h24 x0 6 5).bind fun v26 =>
      if v26 ≤ 0 then
        (fx_is h24 x0 6).bind fun _ =>
        (F_X6_takesBreaths h24 x0 x1 x2).bind fun v30 =>
        some (v30, h24)
      else
        some (ki 0, h24)
theorem r_X6_breaths {X : mm_Cl} (hX : mm_mono X) {d c k : Nat} {Q : mm_Re → Prop} {h : mm_S} {x0 : Nat} {x1 : Int32} {x2 : Int32} {o : (Int32 × mm_S)} (hF : F_X6_breaths h x0 x1 x2 = some o) (hQ : Q (.inl (some (.int o.1)), o.2)) : mm_Run X (d + 3) 189 c k [.ref x0, .int x1, .int x2] h Q := by
  unfold F_X6_breaths at hF
  refine mm_Run_in (by decide) (by decide) (Nat.le_of_ble_eq_true rfl) ?_
  show mm_Ex (mm_Run X (d + 2)) 189 Q (0, [], [(0, .ref x0), (1, .int x1), (2, .int x2)], h) c k
  refine go_adv hX c_189 2 (F2 := (2, [.int x1, .ref x0], [(0, .ref x0), (1, .int x1), (2, .int x2)], h)) rfl ?_
  obtain ⟨v1, e2, hF⟩ := mm_bind hF
  refine go_cS hX (As := [.int x1]) (rv := some (.int v1)) (h2 := h) c_189 rfl (by decide) (Nat.le_of_ble_eq_true rfl) rfl rfl (Nat.le_of_ble_eq_true rfl) (fun Q2 hQ2 => r_X6_isGiant hX (d := d) e2 hQ2) ?_
  rcases mm_ite hF with ⟨hc3, hF⟩ | ⟨hc3, hF⟩
  · refine go_zt hX 20 c_189 rfl rfl hc3 ?_
    refine go_adv hX c_189 1 (F2 := (21, [.int (ki 1), .ref x0], [(0, .ref x0), (1, .int x1), (2, .int x2)], h)) rfl ?_
    obtain ⟨h4, e5, hF⟩ := mm_bind hF
    refine go_pV hX c_189 rfl e5 ?_
    refine go_adv hX c_189 1 (F2 := (25, [.ref x0], [(0, .ref x0), (1, .int x1), (2, .int x2)], h4)) rfl ?_
    obtain ⟨v6, e7, hF⟩ := mm_bind hF
    refine go_gI hX c_189 rfl e7 ?_
    rcases mm_ite hF with ⟨hc8, hF⟩ | ⟨hc8, hF⟩
    · refine go_zt hX 35 c_189 rfl rfl hc8 ?_
      refine go_adv hX c_189 3 (F2 := (38, [.int x2, .int x1, .ref x0], [(0, .ref x0), (1, .int x1), (2, .int x2)], h4)) rfl ?_
      obtain ⟨_, e9, hF⟩ := mm_bind hF
      obtain ⟨v10, e11, hF⟩ := mm_bind hF
      refine go_cV hX (As := [.int x1, .int x2]) (rv := some (.int v10)) (h2 := h4) (ci := 6) c_189 rfl (Nat.le_of_ble_eq_true rfl) rfl rfl e9 (by decide) (Nat.le_of_ble_eq_true rfl) (fun Q2 hQ2 => r_X6_takesBreaths hX (d := d) e11 hQ2) ?_
      cases hF
      exact go_iret hX c_189 rfl rfl rfl hQ
    · refine go_zf hX c_189 rfl (by decide) hc8 ?_
      refine go_adv hX c_189 1 (F2 := (32, [.int (ki 0)], [(0, .ref x0), (1, .int x1), (2, .int x2)], h4)) rfl ?_
      refine go_to hX 41 c_189 rfl rfl ?_
      cases hF
      exact go_iret hX c_189 rfl rfl rfl hQ
  · refine go_zf hX c_189 rfl (by decide) hc3 ?_
    refine go_adv hX c_189 2 (F2 := (10, [.int x2, .ref x0, .ref x0], [(0, .ref x0), (1, .int x1), (2, .int x2)], h)) rfl ?_
    obtain ⟨_, e12, hF⟩ := mm_bind hF
    obtain ⟨v13, e14, hF⟩ := mm_bind hF
    refine go_cV hX (As := [.int x2]) (rv := some (.int v13)) (h2 := h) (ci := 6) c_189 rfl (Nat.le_of_ble_eq_true rfl) rfl rfl e12 (by decide) (Nat.le_of_ble_eq_true rfl) (fun Q2 hQ2 => r_X6_isStair hX (d := d) e14 hQ2) ?_
    rcases mm_ite hF with ⟨hc15, hF⟩ | ⟨hc15, hF⟩
    · refine go_zt hX 20 c_189 rfl rfl hc15 ?_
      refine go_adv hX c_189 1 (F2 := (21, [.int (ki 1), .ref x0], [(0, .ref x0), (1, .int x1), (2, .int x2)], h)) rfl ?_
      obtain ⟨h16, e17, hF⟩ := mm_bind hF
      refine go_pV hX c_189 rfl e17 ?_
      refine go_adv hX c_189 1 (F2 := (25, [.ref x0], [(0, .ref x0), (1, .int x1), (2, .int x2)], h16)) rfl ?_
      obtain ⟨v18, e19, hF⟩ := mm_bind hF
      refine go_gI hX c_189 rfl e19 ?_
      rcases mm_ite hF with ⟨hc20, hF⟩ | ⟨hc20, hF⟩
      · refine go_zt hX 35 c_189 rfl rfl hc20 ?_
        refine go_adv hX c_189 3 (F2 := (38, [.int x2, .int x1, .ref x0], [(0, .ref x0), (1, .int x1), (2, .int x2)], h16)) rfl ?_
        obtain ⟨_, e21, hF⟩ := mm_bind hF
        obtain ⟨v22, e23, hF⟩ := mm_bind hF
        refine go_cV hX (As := [.int x1, .int x2]) (rv := some (.int v22)) (h2 := h16) (ci := 6) c_189 rfl (Nat.le_of_ble_eq_true rfl) rfl rfl e21 (by decide) (Nat.le_of_ble_eq_true rfl) (fun Q2 hQ2 => r_X6_takesBreaths hX (d := d) e23 hQ2) ?_
        cases hF
        exact go_iret hX c_189 rfl rfl rfl hQ
      · refine go_zf hX c_189 rfl (by decide) hc20 ?_
        refine go_adv hX c_189 1 (F2 := (32, [.int (ki 0)], [(0, .ref x0), (1, .int x1), (2, .int x2)], h16)) rfl ?_
        refine go_to hX 41 c_189 rfl rfl ?_
        cases hF
        exact go_iret hX c_189 rfl rfl rfl hQ
    · refine go_zf hX c_189 rfl (by decide) hc15 ?_
      refine go_adv hX c_189 1 (F2 := (17, [.int (ki 0), .ref x0], [(0, .ref x0), (1, .int x1), (2, .int x2)], h)) rfl ?_
      refine go_to hX 21 c_189 rfl rfl ?_
      obtain ⟨h24, e25, hF⟩ := mm_bind hF
      refine go_pV hX c_189 rfl e25 ?_
      refine go_adv hX c_189 1 (F2 := (25, [.ref x0], [(0, .ref x0), (1, .int x1), (2, .int x2)], h24)) rfl ?_
      obtain ⟨v26, e27, hF⟩ := mm_bind hF
      refine go_gI hX c_189 rfl e27 ?_
      rcases mm_ite hF with ⟨hc28, hF⟩ | ⟨hc28, hF⟩
      · refine go_zt hX 35 c_189 rfl rfl hc28 ?_
        refine go_adv hX c_189 3 (F2 := (38, [.int x2, .int x1, .ref x0], [(0, .ref x0), (1, .int x1), (2, .int x2)], h24)) rfl ?_
        obtain ⟨_, e29, hF⟩ := mm_bind hF
        obtain ⟨v30, e31, hF⟩ := mm_bind hF
        refine go_cV hX (As := [.int x1, .int x2]) (rv := some (.int v30)) (h2 := h24) (ci := 6) c_189 rfl (Nat.le_of_ble_eq_true rfl) rfl rfl e29 (by decide) (Nat.le_of_ble_eq_true rfl) (fun Q2 hQ2 => r_X6_takesBreaths hX (d := d) e31 hQ2) ?_
        cases hF
        exact go_iret hX c_189 rfl rfl rfl hQ
      · refine go_zf hX c_189 rfl (by decide) hc28 ?_
        refine go_adv hX c_189 1 (F2 := (32, [.int (ki 0)], [(0, .ref x0), (1, .int x1), (2, .int x2)], h24)) rfl ?_
        refine go_to hX 41 c_189 rfl rfl ?_
        cases hF
        exact go_iret hX c_189 rfl rfl rfl hQ
theorem c_190 : mm_cd 190 = k_X6_lengthOf := rfl
def F_X6_lengthOf (h : mm_S) (x0 : Nat) (x1 : Int32) (x2 : Int32) : Option Int32 :=
  if 0 ≤ x2 then
    (fx_is h x0 6).bind fun _ =>
    (F_X6_takesBreaths h x0 x2 x1).bind fun v3 =>
    some v3
  else
    (fx_is h x0 6).bind fun _ =>
    (F_X6_sv h x0 x1 (ki 2)).bind fun v6 =>
    some v6
theorem r_X6_lengthOf {X : mm_Cl} (hX : mm_mono X) {d c k : Nat} {Q : mm_Re → Prop} {h : mm_S} {x0 : Nat} {x1 : Int32} {x2 : Int32} {o : Int32} (hF : F_X6_lengthOf h x0 x1 x2 = some o) (hQ : Q (.inl (some (.int o)), h)) : mm_Run X (d + 3) 190 c k [.ref x0, .int x1, .int x2] h Q := by
  unfold F_X6_lengthOf at hF
  refine mm_Run_in (by decide) (by decide) (Nat.le_of_ble_eq_true rfl) ?_
  show mm_Ex (mm_Run X (d + 2)) 190 Q (0, [], [(0, .ref x0), (1, .int x1), (2, .int x2)], h) c k
  refine go_adv hX c_190 1 (F2 := (1, [.int x2], [(0, .ref x0), (1, .int x1), (2, .int x2)], h)) rfl ?_
  rcases mm_ite hF with ⟨hc1, hF⟩ | ⟨hc1, hF⟩
  · refine go_zt hX 13 c_190 rfl rfl hc1 ?_
    refine go_adv hX c_190 3 (F2 := (16, [.int x1, .int x2, .ref x0], [(0, .ref x0), (1, .int x1), (2, .int x2)], h)) rfl ?_
    obtain ⟨_, e2, hF⟩ := mm_bind hF
    obtain ⟨v3, e4, hF⟩ := mm_bind hF
    refine go_cV hX (As := [.int x2, .int x1]) (rv := some (.int v3)) (h2 := h) (ci := 6) c_190 rfl (Nat.le_of_ble_eq_true rfl) rfl rfl e2 (by decide) (Nat.le_of_ble_eq_true rfl) (fun Q2 hQ2 => r_X6_takesBreaths hX (d := d) e4 hQ2) ?_
    cases hF
    exact go_iret hX c_190 rfl rfl rfl hQ
  · refine go_zf hX c_190 rfl (by decide) hc1 ?_
    refine go_adv hX c_190 3 (F2 := (7, [.int (ki 2), .int x1, .ref x0], [(0, .ref x0), (1, .int x1), (2, .int x2)], h)) rfl ?_
    obtain ⟨_, e5, hF⟩ := mm_bind hF
    obtain ⟨v6, e7, hF⟩ := mm_bind hF
    refine go_cV hX (As := [.int x1, .int (ki 2)]) (rv := some (.int v6)) (h2 := h) (ci := 6) c_190 rfl (Nat.le_of_ble_eq_true rfl) rfl rfl e5 (by decide) (Nat.le_of_ble_eq_true rfl) (fun Q2 hQ2 => r_X6_sv hX (d := (d + 1)) e7 hQ2) ?_
    refine go_to hX 19 c_190 rfl rfl ?_
    cases hF
    exact go_iret hX c_190 rfl rfl rfl hQ
theorem c_191 : mm_cd 191 = k_X6_lays := rfl
def F_X6_lays_L2 : Nat → Nat → Int32 → Int32 → Int32 → mm_S → Option mm_S
  | 0, _, _, _, _, _ => none
  | n + 1, x0, x1, x2, x3, h =>
    if (kb 8) ≤ x3 then
      some h
    else
      (fx_gR h x0 6 15).bind fun v2 =>
      if x3 ≠ x1 then
        (fx_sI h v2 x3 (nI 1000000)).bind fun h5 =>
        F_X6_lays_L2 n x0 x1 x2 (x3 + ki 1) h5
      else
        (fx_sI h v2 x3 (ki 0)).bind fun h7 =>
        F_X6_lays_L2 n x0 x1 x2 (x3 + ki 1) h7
def F_X6_lays_L42 : Nat → Nat → Int32 → Int32 → Int32 → mm_S → Option mm_S
  | 0, _, _, _, _, _ => none
  | n + 1, x0, x2, x3, x4, h =>
    (fx_gR h x0 6 0).bind fun v12 =>
    (fx_aI h v12 (ki 0)).bind fun v14 =>
    if v14 ≤ x4 then
      some h
    else
      (fx_is h x0 6).bind fun _ =>
      (F_X6_sv h x0 x4 (ki 0)).bind fun v18 =>
      (fx_is h x0 6).bind fun _ =>
      (F_X6_sv h x0 x4 (ki 1)).bind fun v21 =>
      if x2 < 0 then
        (fx_gR h x0 6 15).bind fun v24 =>
        (fx_gR h x0 6 15).bind fun v26 =>
        (fx_aI h v26 v21).bind fun v28 =>
        (fx_gR h x0 6 15).bind fun v30 =>
        (fx_aI h v30 v18).bind fun v32 =>
        (fx_is h x0 6).bind fun _ =>
        (F_X6_lengthOf h x0 x4 x2).bind fun v35 =>
        (F_X6_least h v28 (v32 + v35)).bind fun v37 =>
        (fx_sI h v24 v21 v37).bind fun h39 =>
        (fx_gR h39 x0 6 15).bind fun v41 =>
        (fx_gR h39 x0 6 15).bind fun v43 =>
        (fx_aI h39 v43 v18).bind fun v45 =>
        (fx_gR h39 x0 6 15).bind fun v47 =>
        (fx_aI h39 v47 v21).bind fun v49 =>
        (fx_is h39 x0 6).bind fun _ =>
        (F_X6_lengthOf h39 x0 x4 x2).bind fun v52 =>
        (F_X6_least h39 v45 (v49 + v52)).bind fun v54 =>
        (fx_sI h39 v41 v18 v54).bind fun h56 =>
        F_X6_lays_L42 n x0 x2 x3 (x4 + ki 1) h56
      else
        (fx_is h x0 6).bind fun _ =>
        (F_X6_owner h x0 v18).bind fun v59 =>
        if v59 = (ki 2) then
          F_X6_lays_L42 n x0 x2 x3 (x4 + ki 1) h
        else
          (fx_is h x0 6).bind fun _ =>
          (F_X6_owner h x0 v21).bind fun v63 =>
          if v63 ≠ (ki 2) then
            (fx_gR h x0 6 15).bind fun v66 =>
            (fx_gR h x0 6 15).bind fun v68 =>
            (fx_aI h v68 v21).bind fun v70 =>
            (fx_gR h x0 6 15).bind fun v72 =>
            (fx_aI h v72 v18).bind fun v74 =>
            (fx_is h x0 6).bind fun _ =>
            (F_X6_lengthOf h x0 x4 x2).bind fun v77 =>
            (F_X6_least h v70 (v74 + v77)).bind fun v79 =>
            (fx_sI h v66 v21 v79).bind fun h81 =>
            (fx_gR h81 x0 6 15).bind fun v83 =>
            (fx_gR h81 x0 6 15).bind fun v85 =>
            (fx_aI h81 v85 v18).bind fun v87 =>
            (fx_gR h81 x0 6 15).bind fun v89 =>
            (fx_aI h81 v89 v21).bind fun v91 =>
            (fx_is h81 x0 6).bind fun _ =>
            (F_X6_lengthOf h81 x0 x4 x2).bind fun v94 =>
            (F_X6_least h81 v87 (v91 + v94)).bind fun v96 =>
            (fx_sI h81 v83 v18 v96).bind fun h98 =>
            F_X6_lays_L42 n x0 x2 x3 (x4 + ki 1) h98
          else
            F_X6_lays_L42 n x0 x2 x3 (x4 + ki 1) h
def F_X6_lays_L33 : Nat → Nat → Int32 → Int32 → mm_S → Option mm_S
  | 0, _, _, _, _ => none
  | n + 1, x0, x2, x3, h =>
    if (kb 8) ≤ x3 then
      some h
    else
      (F_X6_lays_L42 1000 x0 x2 x3 (ki 0) h).bind fun o100 =>
      F_X6_lays_L33 n x0 x2 (x3 + ki 1) o100
def F_X6_lays (h : mm_S) (x0 : Nat) (x1 : Int32) (x2 : Int32) : Option mm_S :=
  (F_X6_lays_L2 1000 x0 x1 x2 (ki 0) h).bind fun o9 =>
  (F_X6_lays_L33 1000 x0 x2 (ki 0) o9).bind fun o102 =>
  some o102
theorem r_X6_lays_L2 {X : mm_Cl} (hX : mm_mono X) {d c k : Nat} {Q : mm_Re → Prop} : ∀ (n : Nat) (x0 : Nat) (x1 : Int32) (x2 : Int32) (x3 : Int32) (h : mm_S) (o : mm_S), F_X6_lays_L2 n x0 x1 x2 x3 h = some o → (mm_Ex (mm_Run X (d + 3)) 191 Q (31, [], [(0, .ref x0), (2, .int x2)], o) c k) → mm_Ex (mm_Run X (d + 3)) 191 Q (2, [], [(0, .ref x0), (1, .int x1), (2, .int x2), (3, .int x3)], h) c k := by
  intro n
  induction n with
  | zero => intro x0 x1 x2 x3 h o hF; cases hF
  | succ n ih =>
    intro x0 x1 x2 x3 h o hF hE
    unfold F_X6_lays_L2 at hF
    refine go_adv hX c_191 2 (F2 := (5, [.int (kb 8), .int x3], [(0, .ref x0), (1, .int x1), (2, .int x2), (3, .int x3)], h)) rfl ?_
    rcases mm_ite hF with ⟨hc1, hF⟩ | ⟨hc1, hF⟩
    · refine go_ct hX 31 c_191 rfl rfl hc1 ?_
      cases hF
      refine go_ls [(0, .ref x0), (2, .int x2)] ⟨rfl, ⟨rfl, trivial⟩⟩ ?_
      exact hE
    · refine go_cf hX c_191 rfl (by decide) hc1 ?_
      refine go_adv hX c_191 1 (F2 := (9, [.ref x0], [(0, .ref x0), (1, .int x1), (2, .int x2), (3, .int x3)], h)) rfl ?_
      obtain ⟨v2, e3, hF⟩ := mm_bind hF
      refine go_gR hX c_191 rfl e3 ?_
      refine go_adv hX c_191 3 (F2 := (15, [.int x1, .int x3, .int x3, .ref v2], [(0, .ref x0), (1, .int x1), (2, .int x2), (3, .int x3)], h)) rfl ?_
      rcases mm_ite hF with ⟨hc4, hF⟩ | ⟨hc4, hF⟩
      · refine go_ct hX 22 c_191 rfl rfl hc4 ?_
        refine go_adv hX c_191 1 (F2 := (24, [.int (nI 1000000), .int x3, .ref v2], [(0, .ref x0), (1, .int x1), (2, .int x2), (3, .int x3)], h)) rfl ?_
        obtain ⟨h5, e6, hF⟩ := mm_bind hF
        refine go_sI hX c_191 rfl e6 ?_
        refine go_adv hX c_191 1 (F2 := (28, [], [(3, .int (x3 + ki 1)), (0, .ref x0), (1, .int x1), (2, .int x2)], h5)) rfl ?_
        refine go_to hX 2 c_191 rfl rfl ?_
        refine go_ls [(0, .ref x0), (1, .int x1), (2, .int x2), (3, .int (x3 + ki 1))] ⟨rfl, ⟨rfl, ⟨rfl, ⟨rfl, trivial⟩⟩⟩⟩ ?_
        exact ih x0 x1 x2 (x3 + ki 1) h5 _ hF hE
      · refine go_cf hX c_191 rfl (by decide) hc4 ?_
        refine go_adv hX c_191 1 (F2 := (19, [.int (ki 0), .int x3, .ref v2], [(0, .ref x0), (1, .int x1), (2, .int x2), (3, .int x3)], h)) rfl ?_
        refine go_to hX 24 c_191 rfl rfl ?_
        obtain ⟨h7, e8, hF⟩ := mm_bind hF
        refine go_sI hX c_191 rfl e8 ?_
        refine go_adv hX c_191 1 (F2 := (28, [], [(3, .int (x3 + ki 1)), (0, .ref x0), (1, .int x1), (2, .int x2)], h7)) rfl ?_
        refine go_to hX 2 c_191 rfl rfl ?_
        refine go_ls [(0, .ref x0), (1, .int x1), (2, .int x2), (3, .int (x3 + ki 1))] ⟨rfl, ⟨rfl, ⟨rfl, ⟨rfl, trivial⟩⟩⟩⟩ ?_
        exact ih x0 x1 x2 (x3 + ki 1) h7 _ hF hE
theorem r_X6_lays_L42 {X : mm_Cl} (hX : mm_mono X) {d c k : Nat} {Q : mm_Re → Prop} : ∀ (n : Nat) (x0 : Nat) (x2 : Int32) (x3 : Int32) (x4 : Int32) (h : mm_S) (o : mm_S), F_X6_lays_L42 n x0 x2 x3 x4 h = some o → (mm_Ex (mm_Run X (d + 3)) 191 Q (168, [], [(0, .ref x0), (2, .int x2), (3, .int x3)], o) c k) → mm_Ex (mm_Run X (d + 3)) 191 Q (42, [], [(0, .ref x0), (2, .int x2), (3, .int x3), (4, .int x4)], h) c k := by
  intro n
  induction n with
  | zero => intro x0 x2 x3 x4 h o hF; cases hF
  | succ n ih =>
    intro x0 x2 x3 x4 h o hF hE
    unfold F_X6_lays_L42 at hF
    refine go_adv hX c_191 2 (F2 := (45, [.ref x0, .int x4], [(0, .ref x0), (2, .int x2), (3, .int x3), (4, .int x4)], h)) rfl ?_
    obtain ⟨v12, e13, hF⟩ := mm_bind hF
    refine go_gR hX c_191 rfl e13 ?_
    refine go_adv hX c_191 1 (F2 := (49, [.int (ki 0), .ref v12, .int x4], [(0, .ref x0), (2, .int x2), (3, .int x3), (4, .int x4)], h)) rfl ?_
    obtain ⟨v14, e15, hF⟩ := mm_bind hF
    refine go_aI hX c_191 rfl e15 ?_
    rcases mm_ite hF with ⟨hc16, hF⟩ | ⟨hc16, hF⟩
    · refine go_ct hX 168 c_191 rfl rfl hc16 ?_
      cases hF
      refine go_ls [(0, .ref x0), (2, .int x2), (3, .int x3)] ⟨rfl, ⟨rfl, ⟨rfl, trivial⟩⟩⟩ ?_
      exact hE
    · refine go_cf hX c_191 rfl (by decide) hc16 ?_
      refine go_adv hX c_191 3 (F2 := (57, [.int (ki 0), .int x4, .ref x0], [(0, .ref x0), (2, .int x2), (3, .int x3), (4, .int x4)], h)) rfl ?_
      obtain ⟨_, e17, hF⟩ := mm_bind hF
      obtain ⟨v18, e19, hF⟩ := mm_bind hF
      refine go_cV hX (As := [.int x4, .int (ki 0)]) (rv := some (.int v18)) (h2 := h) (ci := 6) c_191 rfl (Nat.le_of_ble_eq_true rfl) rfl rfl e17 (by decide) (Nat.le_of_ble_eq_true rfl) (fun Q2 hQ2 => r_X6_sv hX (d := (d + 2)) e19 hQ2) ?_
      refine go_adv hX c_191 4 (F2 := (66, [.int (ki 1), .int x4, .ref x0], [(5, .int v18), (0, .ref x0), (2, .int x2), (3, .int x3), (4, .int x4)], h)) rfl ?_
      obtain ⟨_, e20, hF⟩ := mm_bind hF
      obtain ⟨v21, e22, hF⟩ := mm_bind hF
      refine go_cV hX (As := [.int x4, .int (ki 1)]) (rv := some (.int v21)) (h2 := h) (ci := 6) c_191 rfl (Nat.le_of_ble_eq_true rfl) rfl rfl e20 (by decide) (Nat.le_of_ble_eq_true rfl) (fun Q2 hQ2 => r_X6_sv hX (d := (d + 2)) e22 hQ2) ?_
      refine go_adv hX c_191 2 (F2 := (72, [.int x2], [(6, .int v21), (5, .int v18), (0, .ref x0), (2, .int x2), (3, .int x3), (4, .int x4)], h)) rfl ?_
      rcases mm_ite hF with ⟨hc23, hF⟩ | ⟨hc23, hF⟩
      · refine go_zt hX 98 c_191 rfl rfl hc23 ?_
        refine go_adv hX c_191 1 (F2 := (99, [.ref x0], [(6, .int v21), (5, .int v18), (0, .ref x0), (2, .int x2), (3, .int x3), (4, .int x4)], h)) rfl ?_
        obtain ⟨v24, e25, hF⟩ := mm_bind hF
        refine go_gR hX c_191 rfl e25 ?_
        refine go_adv hX c_191 2 (F2 := (105, [.ref x0, .int v21, .ref v24], [(6, .int v21), (5, .int v18), (0, .ref x0), (2, .int x2), (3, .int x3), (4, .int x4)], h)) rfl ?_
        obtain ⟨v26, e27, hF⟩ := mm_bind hF
        refine go_gR hX c_191 rfl e27 ?_
        refine go_adv hX c_191 1 (F2 := (110, [.int v21, .ref v26, .int v21, .ref v24], [(6, .int v21), (5, .int v18), (0, .ref x0), (2, .int x2), (3, .int x3), (4, .int x4)], h)) rfl ?_
        obtain ⟨v28, e29, hF⟩ := mm_bind hF
        refine go_aI hX c_191 rfl e29 ?_
        refine go_adv hX c_191 1 (F2 := (112, [.ref x0, .int v28, .int v21, .ref v24], [(6, .int v21), (5, .int v18), (0, .ref x0), (2, .int x2), (3, .int x3), (4, .int x4)], h)) rfl ?_
        obtain ⟨v30, e31, hF⟩ := mm_bind hF
        refine go_gR hX c_191 rfl e31 ?_
        refine go_adv hX c_191 1 (F2 := (117, [.int v18, .ref v30, .int v28, .int v21, .ref v24], [(6, .int v21), (5, .int v18), (0, .ref x0), (2, .int x2), (3, .int x3), (4, .int x4)], h)) rfl ?_
        obtain ⟨v32, e33, hF⟩ := mm_bind hF
        refine go_aI hX c_191 rfl e33 ?_
        refine go_adv hX c_191 3 (F2 := (122, [.int x2, .int x4, .ref x0, .int v32, .int v28, .int v21, .ref v24], [(6, .int v21), (5, .int v18), (0, .ref x0), (2, .int x2), (3, .int x3), (4, .int x4)], h)) rfl ?_
        obtain ⟨_, e34, hF⟩ := mm_bind hF
        obtain ⟨v35, e36, hF⟩ := mm_bind hF
        refine go_cV hX (As := [.int x4, .int x2]) (rv := some (.int v35)) (h2 := h) (ci := 6) c_191 rfl (Nat.le_of_ble_eq_true rfl) rfl rfl e34 (by decide) (Nat.le_of_ble_eq_true rfl) (fun Q2 hQ2 => r_X6_lengthOf hX (d := d) e36 hQ2) ?_
        refine go_adv hX c_191 1 (F2 := (126, [.int (v32 + v35), .int v28, .int v21, .ref v24], [(6, .int v21), (5, .int v18), (0, .ref x0), (2, .int x2), (3, .int x3), (4, .int x4)], h)) rfl ?_
        obtain ⟨v37, e38, hF⟩ := mm_bind hF
        refine go_cS hX (As := [.int v28, .int (v32 + v35)]) (rv := some (.int v37)) (h2 := h) c_191 rfl (by decide) (Nat.le_of_ble_eq_true rfl) rfl rfl (Nat.le_of_ble_eq_true rfl) (fun Q2 hQ2 => r_X6_least hX (d := (d + 2)) e38 hQ2) ?_
        obtain ⟨h39, e40, hF⟩ := mm_bind hF
        refine go_sI hX c_191 rfl e40 ?_
        refine go_adv hX c_191 1 (F2 := (131, [.ref x0], [(6, .int v21), (5, .int v18), (0, .ref x0), (2, .int x2), (3, .int x3), (4, .int x4)], h39)) rfl ?_
        obtain ⟨v41, e42, hF⟩ := mm_bind hF
        refine go_gR hX c_191 rfl e42 ?_
        refine go_adv hX c_191 2 (F2 := (137, [.ref x0, .int v18, .ref v41], [(6, .int v21), (5, .int v18), (0, .ref x0), (2, .int x2), (3, .int x3), (4, .int x4)], h39)) rfl ?_
        obtain ⟨v43, e44, hF⟩ := mm_bind hF
        refine go_gR hX c_191 rfl e44 ?_
        refine go_adv hX c_191 1 (F2 := (142, [.int v18, .ref v43, .int v18, .ref v41], [(6, .int v21), (5, .int v18), (0, .ref x0), (2, .int x2), (3, .int x3), (4, .int x4)], h39)) rfl ?_
        obtain ⟨v45, e46, hF⟩ := mm_bind hF
        refine go_aI hX c_191 rfl e46 ?_
        refine go_adv hX c_191 1 (F2 := (144, [.ref x0, .int v45, .int v18, .ref v41], [(6, .int v21), (5, .int v18), (0, .ref x0), (2, .int x2), (3, .int x3), (4, .int x4)], h39)) rfl ?_
        obtain ⟨v47, e48, hF⟩ := mm_bind hF
        refine go_gR hX c_191 rfl e48 ?_
        refine go_adv hX c_191 1 (F2 := (149, [.int v21, .ref v47, .int v45, .int v18, .ref v41], [(6, .int v21), (5, .int v18), (0, .ref x0), (2, .int x2), (3, .int x3), (4, .int x4)], h39)) rfl ?_
        obtain ⟨v49, e50, hF⟩ := mm_bind hF
        refine go_aI hX c_191 rfl e50 ?_
        refine go_adv hX c_191 3 (F2 := (154, [.int x2, .int x4, .ref x0, .int v49, .int v45, .int v18, .ref v41], [(6, .int v21), (5, .int v18), (0, .ref x0), (2, .int x2), (3, .int x3), (4, .int x4)], h39)) rfl ?_
        obtain ⟨_, e51, hF⟩ := mm_bind hF
        obtain ⟨v52, e53, hF⟩ := mm_bind hF
        refine go_cV hX (As := [.int x4, .int x2]) (rv := some (.int v52)) (h2 := h39) (ci := 6) c_191 rfl (Nat.le_of_ble_eq_true rfl) rfl rfl e51 (by decide) (Nat.le_of_ble_eq_true rfl) (fun Q2 hQ2 => r_X6_lengthOf hX (d := d) e53 hQ2) ?_
        refine go_adv hX c_191 1 (F2 := (158, [.int (v49 + v52), .int v45, .int v18, .ref v41], [(6, .int v21), (5, .int v18), (0, .ref x0), (2, .int x2), (3, .int x3), (4, .int x4)], h39)) rfl ?_
        obtain ⟨v54, e55, hF⟩ := mm_bind hF
        refine go_cS hX (As := [.int v45, .int (v49 + v52)]) (rv := some (.int v54)) (h2 := h39) c_191 rfl (by decide) (Nat.le_of_ble_eq_true rfl) rfl rfl (Nat.le_of_ble_eq_true rfl) (fun Q2 hQ2 => r_X6_least hX (d := (d + 2)) e55 hQ2) ?_
        obtain ⟨h56, e57, hF⟩ := mm_bind hF
        refine go_sI hX c_191 rfl e57 ?_
        refine go_adv hX c_191 1 (F2 := (165, [], [(4, .int (x4 + ki 1)), (6, .int v21), (5, .int v18), (0, .ref x0), (2, .int x2), (3, .int x3)], h56)) rfl ?_
        refine go_to hX 42 c_191 rfl rfl ?_
        refine go_ls [(0, .ref x0), (2, .int x2), (3, .int x3), (4, .int (x4 + ki 1))] ⟨rfl, ⟨rfl, ⟨rfl, ⟨rfl, trivial⟩⟩⟩⟩ ?_
        exact ih x0 x2 x3 (x4 + ki 1) h56 _ hF hE
      · refine go_zf hX c_191 rfl (by decide) hc23 ?_
        refine go_adv hX c_191 2 (F2 := (78, [.int v18, .ref x0], [(6, .int v21), (5, .int v18), (0, .ref x0), (2, .int x2), (3, .int x3), (4, .int x4)], h)) rfl ?_
        obtain ⟨_, e58, hF⟩ := mm_bind hF
        obtain ⟨v59, e60, hF⟩ := mm_bind hF
        refine go_cV hX (As := [.int v18]) (rv := some (.int v59)) (h2 := h) (ci := 6) c_191 rfl (Nat.le_of_ble_eq_true rfl) rfl rfl e58 (by decide) (Nat.le_of_ble_eq_true rfl) (fun Q2 hQ2 => r_X6_owner hX (d := (d + 2)) e60 hQ2) ?_
        refine go_adv hX c_191 1 (F2 := (82, [.int (ki 2), .int v59], [(6, .int v21), (5, .int v18), (0, .ref x0), (2, .int x2), (3, .int x3), (4, .int x4)], h)) rfl ?_
        rcases mm_ite hF with ⟨hc61, hF⟩ | ⟨hc61, hF⟩
        · refine go_ct hX 162 c_191 rfl rfl hc61 ?_
          refine go_adv hX c_191 1 (F2 := (165, [], [(4, .int (x4 + ki 1)), (6, .int v21), (5, .int v18), (0, .ref x0), (2, .int x2), (3, .int x3)], h)) rfl ?_
          refine go_to hX 42 c_191 rfl rfl ?_
          refine go_ls [(0, .ref x0), (2, .int x2), (3, .int x3), (4, .int (x4 + ki 1))] ⟨rfl, ⟨rfl, ⟨rfl, ⟨rfl, trivial⟩⟩⟩⟩ ?_
          exact ih x0 x2 x3 (x4 + ki 1) h _ hF hE
        · refine go_cf hX c_191 rfl (by decide) hc61 ?_
          refine go_adv hX c_191 2 (F2 := (88, [.int v21, .ref x0], [(6, .int v21), (5, .int v18), (0, .ref x0), (2, .int x2), (3, .int x3), (4, .int x4)], h)) rfl ?_
          obtain ⟨_, e62, hF⟩ := mm_bind hF
          obtain ⟨v63, e64, hF⟩ := mm_bind hF
          refine go_cV hX (As := [.int v21]) (rv := some (.int v63)) (h2 := h) (ci := 6) c_191 rfl (Nat.le_of_ble_eq_true rfl) rfl rfl e62 (by decide) (Nat.le_of_ble_eq_true rfl) (fun Q2 hQ2 => r_X6_owner hX (d := (d + 2)) e64 hQ2) ?_
          refine go_adv hX c_191 1 (F2 := (92, [.int (ki 2), .int v63], [(6, .int v21), (5, .int v18), (0, .ref x0), (2, .int x2), (3, .int x3), (4, .int x4)], h)) rfl ?_
          rcases mm_ite hF with ⟨hc65, hF⟩ | ⟨hc65, hF⟩
          · refine go_ct hX 98 c_191 rfl rfl hc65 ?_
            refine go_adv hX c_191 1 (F2 := (99, [.ref x0], [(6, .int v21), (5, .int v18), (0, .ref x0), (2, .int x2), (3, .int x3), (4, .int x4)], h)) rfl ?_
            obtain ⟨v66, e67, hF⟩ := mm_bind hF
            refine go_gR hX c_191 rfl e67 ?_
            refine go_adv hX c_191 2 (F2 := (105, [.ref x0, .int v21, .ref v66], [(6, .int v21), (5, .int v18), (0, .ref x0), (2, .int x2), (3, .int x3), (4, .int x4)], h)) rfl ?_
            obtain ⟨v68, e69, hF⟩ := mm_bind hF
            refine go_gR hX c_191 rfl e69 ?_
            refine go_adv hX c_191 1 (F2 := (110, [.int v21, .ref v68, .int v21, .ref v66], [(6, .int v21), (5, .int v18), (0, .ref x0), (2, .int x2), (3, .int x3), (4, .int x4)], h)) rfl ?_
            obtain ⟨v70, e71, hF⟩ := mm_bind hF
            refine go_aI hX c_191 rfl e71 ?_
            refine go_adv hX c_191 1 (F2 := (112, [.ref x0, .int v70, .int v21, .ref v66], [(6, .int v21), (5, .int v18), (0, .ref x0), (2, .int x2), (3, .int x3), (4, .int x4)], h)) rfl ?_
            obtain ⟨v72, e73, hF⟩ := mm_bind hF
            refine go_gR hX c_191 rfl e73 ?_
            refine go_adv hX c_191 1 (F2 := (117, [.int v18, .ref v72, .int v70, .int v21, .ref v66], [(6, .int v21), (5, .int v18), (0, .ref x0), (2, .int x2), (3, .int x3), (4, .int x4)], h)) rfl ?_
            obtain ⟨v74, e75, hF⟩ := mm_bind hF
            refine go_aI hX c_191 rfl e75 ?_
            refine go_adv hX c_191 3 (F2 := (122, [.int x2, .int x4, .ref x0, .int v74, .int v70, .int v21, .ref v66], [(6, .int v21), (5, .int v18), (0, .ref x0), (2, .int x2), (3, .int x3), (4, .int x4)], h)) rfl ?_
            obtain ⟨_, e76, hF⟩ := mm_bind hF
            obtain ⟨v77, e78, hF⟩ := mm_bind hF
            refine go_cV hX (As := [.int x4, .int x2]) (rv := some (.int v77)) (h2 := h) (ci := 6) c_191 rfl (Nat.le_of_ble_eq_true rfl) rfl rfl e76 (by decide) (Nat.le_of_ble_eq_true rfl) (fun Q2 hQ2 => r_X6_lengthOf hX (d := d) e78 hQ2) ?_
            refine go_adv hX c_191 1 (F2 := (126, [.int (v74 + v77), .int v70, .int v21, .ref v66], [(6, .int v21), (5, .int v18), (0, .ref x0), (2, .int x2), (3, .int x3), (4, .int x4)], h)) rfl ?_
            obtain ⟨v79, e80, hF⟩ := mm_bind hF
            refine go_cS hX (As := [.int v70, .int (v74 + v77)]) (rv := some (.int v79)) (h2 := h) c_191 rfl (by decide) (Nat.le_of_ble_eq_true rfl) rfl rfl (Nat.le_of_ble_eq_true rfl) (fun Q2 hQ2 => r_X6_least hX (d := (d + 2)) e80 hQ2) ?_
            obtain ⟨h81, e82, hF⟩ := mm_bind hF
            refine go_sI hX c_191 rfl e82 ?_
            refine go_adv hX c_191 1 (F2 := (131, [.ref x0], [(6, .int v21), (5, .int v18), (0, .ref x0), (2, .int x2), (3, .int x3), (4, .int x4)], h81)) rfl ?_
            obtain ⟨v83, e84, hF⟩ := mm_bind hF
            refine go_gR hX c_191 rfl e84 ?_
            refine go_adv hX c_191 2 (F2 := (137, [.ref x0, .int v18, .ref v83], [(6, .int v21), (5, .int v18), (0, .ref x0), (2, .int x2), (3, .int x3), (4, .int x4)], h81)) rfl ?_
            obtain ⟨v85, e86, hF⟩ := mm_bind hF
            refine go_gR hX c_191 rfl e86 ?_
            refine go_adv hX c_191 1 (F2 := (142, [.int v18, .ref v85, .int v18, .ref v83], [(6, .int v21), (5, .int v18), (0, .ref x0), (2, .int x2), (3, .int x3), (4, .int x4)], h81)) rfl ?_
            obtain ⟨v87, e88, hF⟩ := mm_bind hF
            refine go_aI hX c_191 rfl e88 ?_
            refine go_adv hX c_191 1 (F2 := (144, [.ref x0, .int v87, .int v18, .ref v83], [(6, .int v21), (5, .int v18), (0, .ref x0), (2, .int x2), (3, .int x3), (4, .int x4)], h81)) rfl ?_
            obtain ⟨v89, e90, hF⟩ := mm_bind hF
            refine go_gR hX c_191 rfl e90 ?_
            refine go_adv hX c_191 1 (F2 := (149, [.int v21, .ref v89, .int v87, .int v18, .ref v83], [(6, .int v21), (5, .int v18), (0, .ref x0), (2, .int x2), (3, .int x3), (4, .int x4)], h81)) rfl ?_
            obtain ⟨v91, e92, hF⟩ := mm_bind hF
            refine go_aI hX c_191 rfl e92 ?_
            refine go_adv hX c_191 3 (F2 := (154, [.int x2, .int x4, .ref x0, .int v91, .int v87, .int v18, .ref v83], [(6, .int v21), (5, .int v18), (0, .ref x0), (2, .int x2), (3, .int x3), (4, .int x4)], h81)) rfl ?_
            obtain ⟨_, e93, hF⟩ := mm_bind hF
            obtain ⟨v94, e95, hF⟩ := mm_bind hF
            refine go_cV hX (As := [.int x4, .int x2]) (rv := some (.int v94)) (h2 := h81) (ci := 6) c_191 rfl (Nat.le_of_ble_eq_true rfl) rfl rfl e93 (by decide) (Nat.le_of_ble_eq_true rfl) (fun Q2 hQ2 => r_X6_lengthOf hX (d := d) e95 hQ2) ?_
            refine go_adv hX c_191 1 (F2 := (158, [.int (v91 + v94), .int v87, .int v18, .ref v83], [(6, .int v21), (5, .int v18), (0, .ref x0), (2, .int x2), (3, .int x3), (4, .int x4)], h81)) rfl ?_
            obtain ⟨v96, e97, hF⟩ := mm_bind hF
            refine go_cS hX (As := [.int v87, .int (v91 + v94)]) (rv := some (.int v96)) (h2 := h81) c_191 rfl (by decide) (Nat.le_of_ble_eq_true rfl) rfl rfl (Nat.le_of_ble_eq_true rfl) (fun Q2 hQ2 => r_X6_least hX (d := (d + 2)) e97 hQ2) ?_
            obtain ⟨h98, e99, hF⟩ := mm_bind hF
            refine go_sI hX c_191 rfl e99 ?_
            refine go_adv hX c_191 1 (F2 := (165, [], [(4, .int (x4 + ki 1)), (6, .int v21), (5, .int v18), (0, .ref x0), (2, .int x2), (3, .int x3)], h98)) rfl ?_
            refine go_to hX 42 c_191 rfl rfl ?_
            refine go_ls [(0, .ref x0), (2, .int x2), (3, .int x3), (4, .int (x4 + ki 1))] ⟨rfl, ⟨rfl, ⟨rfl, ⟨rfl, trivial⟩⟩⟩⟩ ?_
            exact ih x0 x2 x3 (x4 + ki 1) h98 _ hF hE
          · refine go_cf hX c_191 rfl (by decide) hc65 ?_
            refine go_to hX 162 c_191 rfl rfl ?_
            refine go_adv hX c_191 1 (F2 := (165, [], [(4, .int (x4 + ki 1)), (6, .int v21), (5, .int v18), (0, .ref x0), (2, .int x2), (3, .int x3)], h)) rfl ?_
            refine go_to hX 42 c_191 rfl rfl ?_
            refine go_ls [(0, .ref x0), (2, .int x2), (3, .int x3), (4, .int (x4 + ki 1))] ⟨rfl, ⟨rfl, ⟨rfl, ⟨rfl, trivial⟩⟩⟩⟩ ?_
            exact ih x0 x2 x3 (x4 + ki 1) h _ hF hE
theorem r_X6_lays_L33 {X : mm_Cl} (hX : mm_mono X) {d c k : Nat} {Q : mm_Re → Prop} : ∀ (n : Nat) (x0 : Nat) (x2 : Int32) (x3 : Int32) (h : mm_S) (o : mm_S), F_X6_lays_L33 n x0 x2 x3 h = some o → (mm_Ex (mm_Run X (d + 3)) 191 Q (174, [], [], o) c k) → mm_Ex (mm_Run X (d + 3)) 191 Q (33, [], [(0, .ref x0), (2, .int x2), (3, .int x3)], h) c k := by
  intro n
  induction n with
  | zero => intro x0 x2 x3 h o hF; cases hF
  | succ n ih =>
    intro x0 x2 x3 h o hF hE
    unfold F_X6_lays_L33 at hF
    refine go_adv hX c_191 2 (F2 := (36, [.int (kb 8), .int x3], [(0, .ref x0), (2, .int x2), (3, .int x3)], h)) rfl ?_
    rcases mm_ite hF with ⟨hc11, hF⟩ | ⟨hc11, hF⟩
    · refine go_ct hX 174 c_191 rfl rfl hc11 ?_
      cases hF
      refine go_ls [] trivial ?_
      exact hE
    · refine go_cf hX c_191 rfl (by decide) hc11 ?_
      refine go_adv hX c_191 2 (F2 := (42, [], [(4, .int (ki 0)), (0, .ref x0), (2, .int x2), (3, .int x3)], h)) rfl ?_
      refine go_ls [(0, .ref x0), (2, .int x2), (3, .int x3), (4, .int (ki 0))] ⟨rfl, ⟨rfl, ⟨rfl, ⟨rfl, trivial⟩⟩⟩⟩ ?_
      obtain ⟨o100, e101, hF⟩ := mm_bind hF
      refine r_X6_lays_L42 hX 1000 x0 x2 x3 (ki 0) h o100 e101 ?_
      refine go_adv hX c_191 1 (F2 := (171, [], [(3, .int (x3 + ki 1)), (0, .ref x0), (2, .int x2)], o100)) rfl ?_
      refine go_to hX 33 c_191 rfl rfl ?_
      refine go_ls [(0, .ref x0), (2, .int x2), (3, .int (x3 + ki 1))] ⟨rfl, ⟨rfl, ⟨rfl, trivial⟩⟩⟩ ?_
      exact ih x0 x2 (x3 + ki 1) o100 _ hF hE
theorem r_X6_lays {X : mm_Cl} (hX : mm_mono X) {d c k : Nat} {Q : mm_Re → Prop} {h : mm_S} {x0 : Nat} {x1 : Int32} {x2 : Int32} {o : mm_S} (hF : F_X6_lays h x0 x1 x2 = some o) (hQ : Q (.inl none, o)) : mm_Run X (d + 4) 191 c k [.ref x0, .int x1, .int x2] h Q := by
  unfold F_X6_lays at hF
  refine mm_Run_in (by decide) (by decide) (Nat.le_of_ble_eq_true rfl) ?_
  show mm_Ex (mm_Run X (d + 3)) 191 Q (0, [], [(0, .ref x0), (1, .int x1), (2, .int x2)], h) c k
  refine go_adv hX c_191 2 (F2 := (2, [], [(3, .int (ki 0)), (0, .ref x0), (1, .int x1), (2, .int x2)], h)) rfl ?_
  refine go_ls [(0, .ref x0), (1, .int x1), (2, .int x2), (3, .int (ki 0))] ⟨rfl, ⟨rfl, ⟨rfl, ⟨rfl, trivial⟩⟩⟩⟩ ?_
  obtain ⟨o9, e10, hF⟩ := mm_bind hF
  refine r_X6_lays_L2 hX 1000 x0 x1 x2 (ki 0) h o9 e10 ?_
  refine go_adv hX c_191 2 (F2 := (33, [], [(3, .int (ki 0)), (0, .ref x0), (2, .int x2)], o9)) rfl ?_
  refine go_ls [(0, .ref x0), (2, .int x2), (3, .int (ki 0))] ⟨rfl, ⟨rfl, ⟨rfl, trivial⟩⟩⟩ ?_
  obtain ⟨o102, e103, hF⟩ := mm_bind hF
  refine r_X6_lays_L33 hX 1000 x0 x2 (ki 0) o9 o102 e103 ?_
  cases hF
  exact go_ret hX c_191 rfl rfl hQ
theorem c_192 : mm_cd 192 = k_X6_stepsTo := rfl
def F_X6_stepsTo_B20 (h : mm_S) (s0 : Int32) (s1 : Nat) (x0 : Nat) (x1 : Int32) (x2 : Int32) : Option (Int32 × mm_S) :=
  (fx_pV h s1 6 5 (.int s0)).bind fun h4 =>
  (fx_gI h4 x0 6 5).bind fun v6 =>
  if v6 ≤ 0 then
    (fx_is h4 x0 6).bind fun _ =>
    (F_X6_lays h4 x0 x1 (ki (-1))).bind fun v10 =>
    (fx_gR v10 x0 6 15).bind fun v12 =>
    (fx_aI v10 v12 x2).bind fun v14 =>
    if (nI 1000000) ≤ v14 then
      (fx_is v10 x0 6).bind fun _ =>
      (F_X6_no v10 x0 (ki 2)).bind fun v18 =>
      some (v18.1, v18.2)
    else
      (fx_gR v10 x0 6 15).bind fun v20 =>
      (fx_aI v10 v20 x2).bind fun v22 =>
      some (v22, v10)
  else
    some (ki 0, h4)
def F_X6_stepsTo_B19 (h : mm_S) (s0 : Nat) (x0 : Nat) (x1 : Int32) (x2 : Int32) : Option (Int32 × mm_S) :=
  F_X6_stepsTo_B20 h (ki 1) s0 x0 x1 x2
def F_X6_stepsTo (h : mm_S) (x0 : Nat) (x1 : Int32) (x2 : Int32) : Option (Int32 × mm_S) :=
  (F_X6_isLanding h x1).bind fun v1 =>
  if v1 = 0 then
    F_X6_stepsTo_B19 h x0 x0 x1 x2
  else
    (F_X6_isLanding h x2).bind fun v24 =>
    if v24 = 0 then
      F_X6_stepsTo_B19 h x0 x0 x1 x2
    else
      F_X6_stepsTo_B20 h (ki 0) x0 x0 x1 x2
theorem r_X6_stepsTo_B20 {X : mm_Cl} (hX : mm_mono X) {d c k : Nat} {Q : mm_Re → Prop} {h : mm_S} {s0 : Int32} {s1 : Nat} {x0 : Nat} {x1 : Int32} {x2 : Int32} {o : (Int32 × mm_S)} (hF : F_X6_stepsTo_B20 h s0 s1 x0 x1 x2 = some o) (hQ : Q (.inl (some (.int o.1)), o.2)) : mm_Ex (mm_Run X (d + 4)) 192 Q (20, [.int s0, .ref s1], [(0, .ref x0), (1, .int x1), (2, .int x2)], h) c k := by
  unfold F_X6_stepsTo_B20 at hF
  obtain ⟨h4, e5, hF⟩ := mm_bind hF
  refine go_pV hX c_192 rfl e5 ?_
  refine go_adv hX c_192 1 (F2 := (24, [.ref x0], [(0, .ref x0), (1, .int x1), (2, .int x2)], h4)) rfl ?_
  obtain ⟨v6, e7, hF⟩ := mm_bind hF
  refine go_gI hX c_192 rfl e7 ?_
  rcases mm_ite hF with ⟨hc8, hF⟩ | ⟨hc8, hF⟩
  · refine go_zt hX 32 c_192 rfl rfl hc8 ?_
    refine go_adv hX c_192 3 (F2 := (35, [.int (ki (-1)), .int x1, .ref x0], [(0, .ref x0), (1, .int x1), (2, .int x2)], h4)) rfl ?_
    obtain ⟨_, e9, hF⟩ := mm_bind hF
    obtain ⟨v10, e11, hF⟩ := mm_bind hF
    refine go_cV hX (As := [.int x1, .int (ki (-1))]) (rv := none) (h2 := v10) (ci := 6) c_192 rfl (Nat.le_of_ble_eq_true rfl) rfl rfl e9 (by decide) (Nat.le_of_ble_eq_true rfl) (fun Q2 hQ2 => r_X6_lays hX (d := d) e11 hQ2) ?_
    refine go_adv hX c_192 1 (F2 := (39, [.ref x0], [(0, .ref x0), (1, .int x1), (2, .int x2)], v10)) rfl ?_
    obtain ⟨v12, e13, hF⟩ := mm_bind hF
    refine go_gR hX c_192 rfl e13 ?_
    refine go_adv hX c_192 1 (F2 := (43, [.int x2, .ref v12], [(0, .ref x0), (1, .int x1), (2, .int x2)], v10)) rfl ?_
    obtain ⟨v14, e15, hF⟩ := mm_bind hF
    refine go_aI hX c_192 rfl e15 ?_
    refine go_adv hX c_192 1 (F2 := (46, [.int (nI 1000000), .int v14], [(0, .ref x0), (1, .int x1), (2, .int x2)], v10)) rfl ?_
    rcases mm_ite hF with ⟨hc16, hF⟩ | ⟨hc16, hF⟩
    · refine go_ct hX 58 c_192 rfl rfl hc16 ?_
      refine go_adv hX c_192 2 (F2 := (60, [.int (ki 2), .ref x0], [(0, .ref x0), (1, .int x1), (2, .int x2)], v10)) rfl ?_
      obtain ⟨_, e17, hF⟩ := mm_bind hF
      obtain ⟨v18, e19, hF⟩ := mm_bind hF
      refine go_cV hX (As := [.int (ki 2)]) (rv := some (.int v18.1)) (h2 := v18.2) (ci := 6) c_192 rfl (Nat.le_of_ble_eq_true rfl) rfl rfl e17 (by decide) (Nat.le_of_ble_eq_true rfl) (fun Q2 hQ2 => r_X6_no hX (d := (d + 3)) e19 hQ2) ?_
      cases hF
      exact go_iret hX c_192 rfl rfl rfl hQ
    · refine go_cf hX c_192 rfl (by decide) hc16 ?_
      refine go_adv hX c_192 1 (F2 := (50, [.ref x0], [(0, .ref x0), (1, .int x1), (2, .int x2)], v10)) rfl ?_
      obtain ⟨v20, e21, hF⟩ := mm_bind hF
      refine go_gR hX c_192 rfl e21 ?_
      refine go_adv hX c_192 1 (F2 := (54, [.int x2, .ref v20], [(0, .ref x0), (1, .int x1), (2, .int x2)], v10)) rfl ?_
      obtain ⟨v22, e23, hF⟩ := mm_bind hF
      refine go_aI hX c_192 rfl e23 ?_
      refine go_to hX 63 c_192 rfl rfl ?_
      cases hF
      exact go_iret hX c_192 rfl rfl rfl hQ
  · refine go_zf hX c_192 rfl (by decide) hc8 ?_
    refine go_adv hX c_192 1 (F2 := (31, [.int (ki 0)], [(0, .ref x0), (1, .int x1), (2, .int x2)], h4)) rfl ?_
    cases hF
    exact go_iret hX c_192 rfl rfl rfl hQ
theorem r_X6_stepsTo_B19 {X : mm_Cl} (hX : mm_mono X) {d c k : Nat} {Q : mm_Re → Prop} {h : mm_S} {s0 : Nat} {x0 : Nat} {x1 : Int32} {x2 : Int32} {o : (Int32 × mm_S)} (hF : F_X6_stepsTo_B19 h s0 x0 x1 x2 = some o) (hQ : Q (.inl (some (.int o.1)), o.2)) : mm_Ex (mm_Run X (d + 4)) 192 Q (19, [.ref s0], [(0, .ref x0), (1, .int x1), (2, .int x2)], h) c k := by
  unfold F_X6_stepsTo_B19 at hF
  refine go_adv hX c_192 1 (F2 := (20, [.int (ki 1), .ref s0], [(0, .ref x0), (1, .int x1), (2, .int x2)], h)) rfl ?_
  refine go_ls [(0, .ref x0), (1, .int x1), (2, .int x2)] ⟨rfl, ⟨rfl, ⟨rfl, trivial⟩⟩⟩ ?_
  exact r_X6_stepsTo_B20 hX hF hQ
theorem r_X6_stepsTo {X : mm_Cl} (hX : mm_mono X) {d c k : Nat} {Q : mm_Re → Prop} {h : mm_S} {x0 : Nat} {x1 : Int32} {x2 : Int32} {o : (Int32 × mm_S)} (hF : F_X6_stepsTo h x0 x1 x2 = some o) (hQ : Q (.inl (some (.int o.1)), o.2)) : mm_Run X (d + 5) 192 c k [.ref x0, .int x1, .int x2] h Q := by
  unfold F_X6_stepsTo at hF
  refine mm_Run_in (by decide) (by decide) (Nat.le_of_ble_eq_true rfl) ?_
  show mm_Ex (mm_Run X (d + 4)) 192 Q (0, [], [(0, .ref x0), (1, .int x1), (2, .int x2)], h) c k
  refine go_adv hX c_192 2 (F2 := (2, [.int x1, .ref x0], [(0, .ref x0), (1, .int x1), (2, .int x2)], h)) rfl ?_
  obtain ⟨v1, e2, hF⟩ := mm_bind hF
  refine go_cS hX (As := [.int x1]) (rv := some (.int v1)) (h2 := h) c_192 rfl (by decide) (Nat.le_of_ble_eq_true rfl) rfl rfl (Nat.le_of_ble_eq_true rfl) (fun Q2 hQ2 => r_X6_isLanding hX (d := (d + 2)) e2 hQ2) ?_
  rcases mm_ite hF with ⟨hc3, hF⟩ | ⟨hc3, hF⟩
  · refine go_zt hX 19 c_192 rfl rfl hc3 ?_
    refine go_ls [(0, .ref x0), (1, .int x1), (2, .int x2)] ⟨rfl, ⟨rfl, ⟨rfl, trivial⟩⟩⟩ ?_
    exact r_X6_stepsTo_B19 hX hF hQ
  · refine go_zf hX c_192 rfl (by decide) hc3 ?_
    refine go_adv hX c_192 1 (F2 := (9, [.int x2, .ref x0], [(0, .ref x0), (1, .int x1), (2, .int x2)], h)) rfl ?_
    obtain ⟨v24, e25, hF⟩ := mm_bind hF
    refine go_cS hX (As := [.int x2]) (rv := some (.int v24)) (h2 := h) c_192 rfl (by decide) (Nat.le_of_ble_eq_true rfl) rfl rfl (Nat.le_of_ble_eq_true rfl) (fun Q2 hQ2 => r_X6_isLanding hX (d := (d + 2)) e25 hQ2) ?_
    rcases mm_ite hF with ⟨hc26, hF⟩ | ⟨hc26, hF⟩
    · refine go_zt hX 19 c_192 rfl rfl hc26 ?_
      refine go_ls [(0, .ref x0), (1, .int x1), (2, .int x2)] ⟨rfl, ⟨rfl, ⟨rfl, trivial⟩⟩⟩ ?_
      exact r_X6_stepsTo_B19 hX hF hQ
    · refine go_zf hX c_192 rfl (by decide) hc26 ?_
      refine go_adv hX c_192 1 (F2 := (16, [.int (ki 0), .ref x0], [(0, .ref x0), (1, .int x1), (2, .int x2)], h)) rfl ?_
      refine go_to hX 20 c_192 rfl rfl ?_
      refine go_ls [(0, .ref x0), (1, .int x1), (2, .int x2)] ⟨rfl, ⟨rfl, ⟨rfl, trivial⟩⟩⟩ ?_
      exact r_X6_stepsTo_B20 hX hF hQ
theorem c_193 : mm_cd 193 = k_X6_steps := rfl
def F_X6_steps (h : mm_S) (x0 : Nat) (x1 : Int32) (x2 : Int32) : Option (Int32 × mm_S) :=
  (fx_is h x0 6).bind fun _ =>
  (F_X6_stepsTo h x0 x1 x2).bind fun v2 =>
  some (v2.1, v2.2)
theorem r_X6_steps {X : mm_Cl} (hX : mm_mono X) {d c k : Nat} {Q : mm_Re → Prop} {h : mm_S} {x0 : Nat} {x1 : Int32} {x2 : Int32} {o : (Int32 × mm_S)} (hF : F_X6_steps h x0 x1 x2 = some o) (hQ : Q (.inl (some (.int o.1)), o.2)) : mm_Run X (d + 6) 193 c k [.ref x0, .int x1, .int x2] h Q := by
  unfold F_X6_steps at hF
  refine mm_Run_in (by decide) (by decide) (Nat.le_of_ble_eq_true rfl) ?_
  show mm_Ex (mm_Run X (d + 5)) 193 Q (0, [], [(0, .ref x0), (1, .int x1), (2, .int x2)], h) c k
  refine go_adv hX c_193 3 (F2 := (3, [.int x2, .int x1, .ref x0], [(0, .ref x0), (1, .int x1), (2, .int x2)], h)) rfl ?_
  obtain ⟨_, e1, hF⟩ := mm_bind hF
  obtain ⟨v2, e3, hF⟩ := mm_bind hF
  refine go_cV hX (As := [.int x1, .int x2]) (rv := some (.int v2.1)) (h2 := v2.2) (ci := 6) c_193 rfl (Nat.le_of_ble_eq_true rfl) rfl rfl e1 (by decide) (Nat.le_of_ble_eq_true rfl) (fun Q2 hQ2 => r_X6_stepsTo hX (d := d) e3 hQ2) ?_
  cases hF
  exact go_iret hX c_193 rfl rfl rfl hQ
theorem c_194 : mm_cd 194 = k_X6_stepsAgain := rfl
def F_X6_stepsAgain (h : mm_S) (x0 : Nat) (x1 : Int32) (x2 : Int32) : Option (Int32 × mm_S) :=
  (fx_is h x0 6).bind fun _ =>
  (F_X6_stepsTo h x0 x1 x2).bind fun v2 =>
  some (v2.1, v2.2)
theorem r_X6_stepsAgain {X : mm_Cl} (hX : mm_mono X) {d c k : Nat} {Q : mm_Re → Prop} {h : mm_S} {x0 : Nat} {x1 : Int32} {x2 : Int32} {o : (Int32 × mm_S)} (hF : F_X6_stepsAgain h x0 x1 x2 = some o) (hQ : Q (.inl (some (.int o.1)), o.2)) : mm_Run X (d + 6) 194 c k [.ref x0, .int x1, .int x2] h Q := by
  unfold F_X6_stepsAgain at hF
  refine mm_Run_in (by decide) (by decide) (Nat.le_of_ble_eq_true rfl) ?_
  show mm_Ex (mm_Run X (d + 5)) 194 Q (0, [], [(0, .ref x0), (1, .int x1), (2, .int x2)], h) c k
  refine go_adv hX c_194 3 (F2 := (3, [.int x2, .int x1, .ref x0], [(0, .ref x0), (1, .int x1), (2, .int x2)], h)) rfl ?_
  obtain ⟨_, e1, hF⟩ := mm_bind hF
  obtain ⟨v2, e3, hF⟩ := mm_bind hF
  refine go_cV hX (As := [.int x1, .int x2]) (rv := some (.int v2.1)) (h2 := v2.2) (ci := 6) c_194 rfl (Nat.le_of_ble_eq_true rfl) rfl rfl e1 (by decide) (Nat.le_of_ble_eq_true rfl) (fun Q2 hQ2 => r_X6_stepsTo hX (d := d) e3 hQ2) ?_
  cases hF
  exact go_iret hX c_194 rfl rfl rfl hQ
theorem c_195 : mm_cd 195 = k_X6_wayTo := rfl
def F_X6_wayTo_B20 (h : mm_S) (s0 : Int32) (s1 : Nat) (x0 : Nat) (x1 : Int32) (x2 : Int32) : Option (Int32 × mm_S) :=
  (fx_pV h s1 6 5 (.int s0)).bind fun h4 =>
  (fx_gI h4 x0 6 5).bind fun v6 =>
  if v6 ≤ 0 then
    (fx_is h4 x0 6).bind fun _ =>
    (F_X6_gv h4 x0 x1 (ki 1)).bind fun v10 =>
    (fx_is h4 x0 6).bind fun _ =>
    (F_X6_lays h4 x0 v10 x1).bind fun v13 =>
    (fx_gR v13 x0 6 15).bind fun v15 =>
    (fx_aI v13 v15 x2).bind fun v17 =>
    if (nI 1000000) ≤ v17 then
      (fx_is v13 x0 6).bind fun _ =>
      (F_X6_no v13 x0 (ki 2)).bind fun v21 =>
      some (v21.1, v21.2)
    else
      (fx_gR v13 x0 6 15).bind fun v23 =>
      (fx_aI v13 v23 x2).bind fun v25 =>
      some (v25, v13)
  else
    some (ki 0, h4)
def F_X6_wayTo_B19 (h : mm_S) (s0 : Nat) (x0 : Nat) (x1 : Int32) (x2 : Int32) : Option (Int32 × mm_S) :=
  F_X6_wayTo_B20 h (ki 1) s0 x0 x1 x2
def F_X6_wayTo (h : mm_S) (x0 : Nat) (x1 : Int32) (x2 : Int32) : Option (Int32 × mm_S) :=
  (F_X6_isGiant h x1).bind fun v1 =>
  if v1 = 0 then
    F_X6_wayTo_B19 h x0 x0 x1 x2
  else
    (F_X6_isLanding h x2).bind fun v27 =>
    if v27 = 0 then
      F_X6_wayTo_B19 h x0 x0 x1 x2
    else
      F_X6_wayTo_B20 h (ki 0) x0 x0 x1 x2
theorem r_X6_wayTo_B20 {X : mm_Cl} (hX : mm_mono X) {d c k : Nat} {Q : mm_Re → Prop} {h : mm_S} {s0 : Int32} {s1 : Nat} {x0 : Nat} {x1 : Int32} {x2 : Int32} {o : (Int32 × mm_S)} (hF : F_X6_wayTo_B20 h s0 s1 x0 x1 x2 = some o) (hQ : Q (.inl (some (.int o.1)), o.2)) : mm_Ex (mm_Run X (d + 4)) 195 Q (20, [.int s0, .ref s1], [(0, .ref x0), (1, .int x1), (2, .int x2)], h) c k := by
  unfold F_X6_wayTo_B20 at hF
  obtain ⟨h4, e5, hF⟩ := mm_bind hF
  refine go_pV hX c_195 rfl e5 ?_
  refine go_adv hX c_195 1 (F2 := (24, [.ref x0], [(0, .ref x0), (1, .int x1), (2, .int x2)], h4)) rfl ?_
  obtain ⟨v6, e7, hF⟩ := mm_bind hF
  refine go_gI hX c_195 rfl e7 ?_
  rcases mm_ite hF with ⟨hc8, hF⟩ | ⟨hc8, hF⟩
  · refine go_zt hX 32 c_195 rfl rfl hc8 ?_
    refine go_adv hX c_195 4 (F2 := (36, [.int (ki 1), .int x1, .ref x0, .ref x0], [(0, .ref x0), (1, .int x1), (2, .int x2)], h4)) rfl ?_
    obtain ⟨_, e9, hF⟩ := mm_bind hF
    obtain ⟨v10, e11, hF⟩ := mm_bind hF
    refine go_cV hX (As := [.int x1, .int (ki 1)]) (rv := some (.int v10)) (h2 := h4) (ci := 6) c_195 rfl (Nat.le_of_ble_eq_true rfl) rfl rfl e9 (by decide) (Nat.le_of_ble_eq_true rfl) (fun Q2 hQ2 => r_X6_gv hX (d := (d + 3)) e11 hQ2) ?_
    refine go_adv hX c_195 1 (F2 := (40, [.int x1, .int v10, .ref x0], [(0, .ref x0), (1, .int x1), (2, .int x2)], h4)) rfl ?_
    obtain ⟨_, e12, hF⟩ := mm_bind hF
    obtain ⟨v13, e14, hF⟩ := mm_bind hF
    refine go_cV hX (As := [.int v10, .int x1]) (rv := none) (h2 := v13) (ci := 6) c_195 rfl (Nat.le_of_ble_eq_true rfl) rfl rfl e12 (by decide) (Nat.le_of_ble_eq_true rfl) (fun Q2 hQ2 => r_X6_lays hX (d := d) e14 hQ2) ?_
    refine go_adv hX c_195 1 (F2 := (44, [.ref x0], [(0, .ref x0), (1, .int x1), (2, .int x2)], v13)) rfl ?_
    obtain ⟨v15, e16, hF⟩ := mm_bind hF
    refine go_gR hX c_195 rfl e16 ?_
    refine go_adv hX c_195 1 (F2 := (48, [.int x2, .ref v15], [(0, .ref x0), (1, .int x1), (2, .int x2)], v13)) rfl ?_
    obtain ⟨v17, e18, hF⟩ := mm_bind hF
    refine go_aI hX c_195 rfl e18 ?_
    refine go_adv hX c_195 1 (F2 := (51, [.int (nI 1000000), .int v17], [(0, .ref x0), (1, .int x1), (2, .int x2)], v13)) rfl ?_
    rcases mm_ite hF with ⟨hc19, hF⟩ | ⟨hc19, hF⟩
    · refine go_ct hX 63 c_195 rfl rfl hc19 ?_
      refine go_adv hX c_195 2 (F2 := (65, [.int (ki 2), .ref x0], [(0, .ref x0), (1, .int x1), (2, .int x2)], v13)) rfl ?_
      obtain ⟨_, e20, hF⟩ := mm_bind hF
      obtain ⟨v21, e22, hF⟩ := mm_bind hF
      refine go_cV hX (As := [.int (ki 2)]) (rv := some (.int v21.1)) (h2 := v21.2) (ci := 6) c_195 rfl (Nat.le_of_ble_eq_true rfl) rfl rfl e20 (by decide) (Nat.le_of_ble_eq_true rfl) (fun Q2 hQ2 => r_X6_no hX (d := (d + 3)) e22 hQ2) ?_
      cases hF
      exact go_iret hX c_195 rfl rfl rfl hQ
    · refine go_cf hX c_195 rfl (by decide) hc19 ?_
      refine go_adv hX c_195 1 (F2 := (55, [.ref x0], [(0, .ref x0), (1, .int x1), (2, .int x2)], v13)) rfl ?_
      obtain ⟨v23, e24, hF⟩ := mm_bind hF
      refine go_gR hX c_195 rfl e24 ?_
      refine go_adv hX c_195 1 (F2 := (59, [.int x2, .ref v23], [(0, .ref x0), (1, .int x1), (2, .int x2)], v13)) rfl ?_
      obtain ⟨v25, e26, hF⟩ := mm_bind hF
      refine go_aI hX c_195 rfl e26 ?_
      refine go_to hX 68 c_195 rfl rfl ?_
      cases hF
      exact go_iret hX c_195 rfl rfl rfl hQ
  · refine go_zf hX c_195 rfl (by decide) hc8 ?_
    refine go_adv hX c_195 1 (F2 := (31, [.int (ki 0)], [(0, .ref x0), (1, .int x1), (2, .int x2)], h4)) rfl ?_
    cases hF
    exact go_iret hX c_195 rfl rfl rfl hQ
theorem r_X6_wayTo_B19 {X : mm_Cl} (hX : mm_mono X) {d c k : Nat} {Q : mm_Re → Prop} {h : mm_S} {s0 : Nat} {x0 : Nat} {x1 : Int32} {x2 : Int32} {o : (Int32 × mm_S)} (hF : F_X6_wayTo_B19 h s0 x0 x1 x2 = some o) (hQ : Q (.inl (some (.int o.1)), o.2)) : mm_Ex (mm_Run X (d + 4)) 195 Q (19, [.ref s0], [(0, .ref x0), (1, .int x1), (2, .int x2)], h) c k := by
  unfold F_X6_wayTo_B19 at hF
  refine go_adv hX c_195 1 (F2 := (20, [.int (ki 1), .ref s0], [(0, .ref x0), (1, .int x1), (2, .int x2)], h)) rfl ?_
  refine go_ls [(0, .ref x0), (1, .int x1), (2, .int x2)] ⟨rfl, ⟨rfl, ⟨rfl, trivial⟩⟩⟩ ?_
  exact r_X6_wayTo_B20 hX hF hQ
theorem r_X6_wayTo {X : mm_Cl} (hX : mm_mono X) {d c k : Nat} {Q : mm_Re → Prop} {h : mm_S} {x0 : Nat} {x1 : Int32} {x2 : Int32} {o : (Int32 × mm_S)} (hF : F_X6_wayTo h x0 x1 x2 = some o) (hQ : Q (.inl (some (.int o.1)), o.2)) : mm_Run X (d + 5) 195 c k [.ref x0, .int x1, .int x2] h Q := by
  unfold F_X6_wayTo at hF
  refine mm_Run_in (by decide) (by decide) (Nat.le_of_ble_eq_true rfl) ?_
  show mm_Ex (mm_Run X (d + 4)) 195 Q (0, [], [(0, .ref x0), (1, .int x1), (2, .int x2)], h) c k
  refine go_adv hX c_195 2 (F2 := (2, [.int x1, .ref x0], [(0, .ref x0), (1, .int x1), (2, .int x2)], h)) rfl ?_
  obtain ⟨v1, e2, hF⟩ := mm_bind hF
  refine go_cS hX (As := [.int x1]) (rv := some (.int v1)) (h2 := h) c_195 rfl (by decide) (Nat.le_of_ble_eq_true rfl) rfl rfl (Nat.le_of_ble_eq_true rfl) (fun Q2 hQ2 => r_X6_isGiant hX (d := (d + 2)) e2 hQ2) ?_
  rcases mm_ite hF with ⟨hc3, hF⟩ | ⟨hc3, hF⟩
  · refine go_zt hX 19 c_195 rfl rfl hc3 ?_
    refine go_ls [(0, .ref x0), (1, .int x1), (2, .int x2)] ⟨rfl, ⟨rfl, ⟨rfl, trivial⟩⟩⟩ ?_
    exact r_X6_wayTo_B19 hX hF hQ
  · refine go_zf hX c_195 rfl (by decide) hc3 ?_
    refine go_adv hX c_195 1 (F2 := (9, [.int x2, .ref x0], [(0, .ref x0), (1, .int x1), (2, .int x2)], h)) rfl ?_
    obtain ⟨v27, e28, hF⟩ := mm_bind hF
    refine go_cS hX (As := [.int x2]) (rv := some (.int v27)) (h2 := h) c_195 rfl (by decide) (Nat.le_of_ble_eq_true rfl) rfl rfl (Nat.le_of_ble_eq_true rfl) (fun Q2 hQ2 => r_X6_isLanding hX (d := (d + 2)) e28 hQ2) ?_
    rcases mm_ite hF with ⟨hc29, hF⟩ | ⟨hc29, hF⟩
    · refine go_zt hX 19 c_195 rfl rfl hc29 ?_
      refine go_ls [(0, .ref x0), (1, .int x1), (2, .int x2)] ⟨rfl, ⟨rfl, ⟨rfl, trivial⟩⟩⟩ ?_
      exact r_X6_wayTo_B19 hX hF hQ
    · refine go_zf hX c_195 rfl (by decide) hc29 ?_
      refine go_adv hX c_195 1 (F2 := (16, [.int (ki 0), .ref x0], [(0, .ref x0), (1, .int x1), (2, .int x2)], h)) rfl ?_
      refine go_to hX 20 c_195 rfl rfl ?_
      refine go_ls [(0, .ref x0), (1, .int x1), (2, .int x2)] ⟨rfl, ⟨rfl, ⟨rfl, trivial⟩⟩⟩ ?_
      exact r_X6_wayTo_B20 hX hF hQ
theorem c_196 : mm_cd 196 = k_X6_way := rfl
def F_X6_way (h : mm_S) (x0 : Nat) (x1 : Int32) (x2 : Int32) : Option (Int32 × mm_S) :=
  (fx_is h x0 6).bind fun _ =>
  (F_X6_wayTo h x0 x1 x2).bind fun v2 =>
  some (v2.1, v2.2)
theorem r_X6_way {X : mm_Cl} (hX : mm_mono X) {d c k : Nat} {Q : mm_Re → Prop} {h : mm_S} {x0 : Nat} {x1 : Int32} {x2 : Int32} {o : (Int32 × mm_S)} (hF : F_X6_way h x0 x1 x2 = some o) (hQ : Q (.inl (some (.int o.1)), o.2)) : mm_Run X (d + 6) 196 c k [.ref x0, .int x1, .int x2] h Q := by
  unfold F_X6_way at hF
  refine mm_Run_in (by decide) (by decide) (Nat.le_of_ble_eq_true rfl) ?_
  show mm_Ex (mm_Run X (d + 5)) 196 Q (0, [], [(0, .ref x0), (1, .int x1), (2, .int x2)], h) c k
  refine go_adv hX c_196 3 (F2 := (3, [.int x2, .int x1, .ref x0], [(0, .ref x0), (1, .int x1), (2, .int x2)], h)) rfl ?_
  obtain ⟨_, e1, hF⟩ := mm_bind hF
  obtain ⟨v2, e3, hF⟩ := mm_bind hF
  refine go_cV hX (As := [.int x1, .int x2]) (rv := some (.int v2.1)) (h2 := v2.2) (ci := 6) c_196 rfl (Nat.le_of_ble_eq_true rfl) rfl rfl e1 (by decide) (Nat.le_of_ble_eq_true rfl) (fun Q2 hQ2 => r_X6_wayTo hX (d := d) e3 hQ2) ?_
  cases hF
  exact go_iret hX c_196 rfl rfl rfl hQ
theorem c_197 : mm_cd 197 = k_X6_wayAgain := rfl
def F_X6_wayAgain (h : mm_S) (x0 : Nat) (x1 : Int32) (x2 : Int32) : Option (Int32 × mm_S) :=
  (fx_is h x0 6).bind fun _ =>
  (F_X6_wayTo h x0 x1 x2).bind fun v2 =>
  some (v2.1, v2.2)
theorem r_X6_wayAgain {X : mm_Cl} (hX : mm_mono X) {d c k : Nat} {Q : mm_Re → Prop} {h : mm_S} {x0 : Nat} {x1 : Int32} {x2 : Int32} {o : (Int32 × mm_S)} (hF : F_X6_wayAgain h x0 x1 x2 = some o) (hQ : Q (.inl (some (.int o.1)), o.2)) : mm_Run X (d + 6) 197 c k [.ref x0, .int x1, .int x2] h Q := by
  unfold F_X6_wayAgain at hF
  refine mm_Run_in (by decide) (by decide) (Nat.le_of_ble_eq_true rfl) ?_
  show mm_Ex (mm_Run X (d + 5)) 197 Q (0, [], [(0, .ref x0), (1, .int x1), (2, .int x2)], h) c k
  refine go_adv hX c_197 3 (F2 := (3, [.int x2, .int x1, .ref x0], [(0, .ref x0), (1, .int x1), (2, .int x2)], h)) rfl ?_
  obtain ⟨_, e1, hF⟩ := mm_bind hF
  obtain ⟨v2, e3, hF⟩ := mm_bind hF
  refine go_cV hX (As := [.int x1, .int x2]) (rv := some (.int v2.1)) (h2 := v2.2) (ci := 6) c_197 rfl (Nat.le_of_ble_eq_true rfl) rfl rfl e1 (by decide) (Nat.le_of_ble_eq_true rfl) (fun Q2 hQ2 => r_X6_wayTo hX (d := d) e3 hQ2) ?_
  cases hF
  exact go_iret hX c_197 rfl rfl rfl hQ
theorem c_198 : mm_cd 198 = k_X6_first := rfl
def F_X6_first_L43 : Nat → Nat → Int32 → Int32 → Int32 → Int32 → mm_S → Option ((Int32 × mm_S) ⊕ mm_S)
  | 0, _, _, _, _, _, _ => none
  | n + 1, x0, x1, x3, x4, x5, h =>
    (fx_gR h x0 6 0).bind fun v14 =>
    (fx_aI h v14 (ki 0)).bind fun v16 =>
    if v16 ≤ x5 then
      some (.inr h)
    else
      (fx_is h x0 6).bind fun _ =>
      (F_X6_touches h x0 x5 x4).bind fun v20 =>
      if v20 = 0 then
        F_X6_first_L43 n x0 x1 x3 x4 (x5 + ki 1) h
      else
        (fx_is h x0 6).bind fun _ =>
        (F_X6_across h x0 x5 x4).bind fun v24 =>
        (fx_is h x0 6).bind fun _ =>
        (F_X6_owner h x0 v24).bind fun v27 =>
        if v27 = (ki 2) then
          F_X6_first_L43 n x0 x1 x3 x4 (x5 + ki 1) h
        else
          (fx_is h x0 6).bind fun _ =>
          (F_X6_takesBreaths h x0 x1 x5).bind fun v31 =>
          (fx_gR h x0 6 15).bind fun v33 =>
          (fx_is h x0 6).bind fun _ =>
          (F_X6_across h x0 x5 x4).bind fun v36 =>
          (fx_aI h v33 v36).bind fun v38 =>
          if (v31 + v38) ≠ x3 then
            F_X6_first_L43 n x0 x1 x3 x4 (x5 + ki 1) h
          else
            some (.inl (x5, h))
def F_X6_first (h : mm_S) (x0 : Nat) (x1 : Int32) (x2 : Int32) : Option (Int32 × mm_S) :=
  (fx_is h x0 6).bind fun _ =>
  (F_X6_wayTo h x0 x1 x2).bind fun v2 =>
  (fx_gI v2.2 x0 6 5).bind fun v4 =>
  if v4 ≤ 0 then
    if v2.1 ≠ 0 then
      (fx_is v2.2 x0 6).bind fun _ =>
      (F_X6_lays v2.2 x0 x2 x1).bind fun v9 =>
      (fx_is v9 x0 6).bind fun _ =>
      (F_X6_gv v9 x0 x1 (ki 1)).bind fun v12 =>
      (F_X6_first_L43 1000 x0 x1 v2.1 v12 (ki 0) v9).bind fun o41 => match o41 with
        | .inl o41r => some o41r
        | .inr o41e =>
          (fx_is o41e x0 6).bind fun _ =>
          (F_X6_no o41e x0 (ki 2)).bind fun v44 =>
          some (v44.1, v44.2)
    else
      (fx_is v2.2 x0 6).bind fun _ =>
      (F_X6_no v2.2 x0 (ki 2)).bind fun v47 =>
      some (v47.1, v47.2)
  else
    some (ki 0, v2.2)
theorem r_X6_first_L43 {X : mm_Cl} (hX : mm_mono X) {d c k : Nat} {Q : mm_Re → Prop} : ∀ (n : Nat) (x0 : Nat) (x1 : Int32) (x3 : Int32) (x4 : Int32) (x5 : Int32) (h : mm_S) (o : ((Int32 × mm_S) ⊕ mm_S)), F_X6_first_L43 n x0 x1 x3 x4 x5 h = some o → (∀ r, o = .inl r → Q (.inl (some (.int r.1)), r.2)) → (∀ e, o = .inr e → mm_Ex (mm_Run X (d + 5)) 198 Q (115, [], [(0, .ref x0)], e) c k) → mm_Ex (mm_Run X (d + 5)) 198 Q (43, [], [(0, .ref x0), (1, .int x1), (3, .int x3), (4, .int x4), (5, .int x5)], h) c k := by
  intro n
  induction n with
  | zero => intro x0 x1 x3 x4 x5 h o hF; cases hF
  | succ n ih =>
    intro x0 x1 x3 x4 x5 h o hF hR hE
    unfold F_X6_first_L43 at hF
    refine go_adv hX c_198 2 (F2 := (46, [.ref x0, .int x5], [(0, .ref x0), (1, .int x1), (3, .int x3), (4, .int x4), (5, .int x5)], h)) rfl ?_
    obtain ⟨v14, e15, hF⟩ := mm_bind hF
    refine go_gR hX c_198 rfl e15 ?_
    refine go_adv hX c_198 1 (F2 := (50, [.int (ki 0), .ref v14, .int x5], [(0, .ref x0), (1, .int x1), (3, .int x3), (4, .int x4), (5, .int x5)], h)) rfl ?_
    obtain ⟨v16, e17, hF⟩ := mm_bind hF
    refine go_aI hX c_198 rfl e17 ?_
    rcases mm_ite hF with ⟨hc18, hF⟩ | ⟨hc18, hF⟩
    · refine go_ct hX 115 c_198 rfl rfl hc18 ?_
      cases hF
      refine go_ls [(0, .ref x0)] ⟨rfl, trivial⟩ ?_
      exact hE _ rfl
    · refine go_cf hX c_198 rfl (by decide) hc18 ?_
      refine go_adv hX c_198 3 (F2 := (59, [.int x4, .int x5, .ref x0], [(0, .ref x0), (1, .int x1), (3, .int x3), (4, .int x4), (5, .int x5)], h)) rfl ?_
      obtain ⟨_, e19, hF⟩ := mm_bind hF
      obtain ⟨v20, e21, hF⟩ := mm_bind hF
      refine go_cV hX (As := [.int x5, .int x4]) (rv := some (.int v20)) (h2 := h) (ci := 6) c_198 rfl (Nat.le_of_ble_eq_true rfl) rfl rfl e19 (by decide) (Nat.le_of_ble_eq_true rfl) (fun Q2 hQ2 => r_X6_touches hX (d := (d + 3)) e21 hQ2) ?_
      rcases mm_ite hF with ⟨hc22, hF⟩ | ⟨hc22, hF⟩
      · refine go_zt hX 109 c_198 rfl rfl hc22 ?_
        refine go_adv hX c_198 1 (F2 := (112, [], [(5, .int (x5 + ki 1)), (0, .ref x0), (1, .int x1), (3, .int x3), (4, .int x4)], h)) rfl ?_
        refine go_to hX 43 c_198 rfl rfl ?_
        refine go_ls [(0, .ref x0), (1, .int x1), (3, .int x3), (4, .int x4), (5, .int (x5 + ki 1))] ⟨rfl, ⟨rfl, ⟨rfl, ⟨rfl, ⟨rfl, trivial⟩⟩⟩⟩⟩ ?_
        exact ih x0 x1 x3 x4 (x5 + ki 1) h _ hF hR hE
      · refine go_zf hX c_198 rfl (by decide) hc22 ?_
        refine go_adv hX c_198 4 (F2 := (71, [.int x4, .int x5, .ref x0, .ref x0], [(0, .ref x0), (1, .int x1), (3, .int x3), (4, .int x4), (5, .int x5)], h)) rfl ?_
        obtain ⟨_, e23, hF⟩ := mm_bind hF
        obtain ⟨v24, e25, hF⟩ := mm_bind hF
        refine go_cV hX (As := [.int x5, .int x4]) (rv := some (.int v24)) (h2 := h) (ci := 6) c_198 rfl (Nat.le_of_ble_eq_true rfl) rfl rfl e23 (by decide) (Nat.le_of_ble_eq_true rfl) (fun Q2 hQ2 => r_X6_across hX (d := (d + 3)) e25 hQ2) ?_
        obtain ⟨_, e26, hF⟩ := mm_bind hF
        obtain ⟨v27, e28, hF⟩ := mm_bind hF
        refine go_cV hX (As := [.int v24]) (rv := some (.int v27)) (h2 := h) (ci := 6) c_198 rfl (Nat.le_of_ble_eq_true rfl) rfl rfl e26 (by decide) (Nat.le_of_ble_eq_true rfl) (fun Q2 hQ2 => r_X6_owner hX (d := (d + 4)) e28 hQ2) ?_
        refine go_adv hX c_198 1 (F2 := (78, [.int (ki 2), .int v27], [(0, .ref x0), (1, .int x1), (3, .int x3), (4, .int x4), (5, .int x5)], h)) rfl ?_
        rcases mm_ite hF with ⟨hc29, hF⟩ | ⟨hc29, hF⟩
        · refine go_ct hX 109 c_198 rfl rfl hc29 ?_
          refine go_adv hX c_198 1 (F2 := (112, [], [(5, .int (x5 + ki 1)), (0, .ref x0), (1, .int x1), (3, .int x3), (4, .int x4)], h)) rfl ?_
          refine go_to hX 43 c_198 rfl rfl ?_
          refine go_ls [(0, .ref x0), (1, .int x1), (3, .int x3), (4, .int x4), (5, .int (x5 + ki 1))] ⟨rfl, ⟨rfl, ⟨rfl, ⟨rfl, ⟨rfl, trivial⟩⟩⟩⟩⟩ ?_
          exact ih x0 x1 x3 x4 (x5 + ki 1) h _ hF hR hE
        · refine go_cf hX c_198 rfl (by decide) hc29 ?_
          refine go_adv hX c_198 3 (F2 := (85, [.int x5, .int x1, .ref x0], [(0, .ref x0), (1, .int x1), (3, .int x3), (4, .int x4), (5, .int x5)], h)) rfl ?_
          obtain ⟨_, e30, hF⟩ := mm_bind hF
          obtain ⟨v31, e32, hF⟩ := mm_bind hF
          refine go_cV hX (As := [.int x1, .int x5]) (rv := some (.int v31)) (h2 := h) (ci := 6) c_198 rfl (Nat.le_of_ble_eq_true rfl) rfl rfl e30 (by decide) (Nat.le_of_ble_eq_true rfl) (fun Q2 hQ2 => r_X6_takesBreaths hX (d := (d + 3)) e32 hQ2) ?_
          refine go_adv hX c_198 1 (F2 := (89, [.ref x0, .int v31], [(0, .ref x0), (1, .int x1), (3, .int x3), (4, .int x4), (5, .int x5)], h)) rfl ?_
          obtain ⟨v33, e34, hF⟩ := mm_bind hF
          refine go_gR hX c_198 rfl e34 ?_
          refine go_adv hX c_198 3 (F2 := (97, [.int x4, .int x5, .ref x0, .ref v33, .int v31], [(0, .ref x0), (1, .int x1), (3, .int x3), (4, .int x4), (5, .int x5)], h)) rfl ?_
          obtain ⟨_, e35, hF⟩ := mm_bind hF
          obtain ⟨v36, e37, hF⟩ := mm_bind hF
          refine go_cV hX (As := [.int x5, .int x4]) (rv := some (.int v36)) (h2 := h) (ci := 6) c_198 rfl (Nat.le_of_ble_eq_true rfl) rfl rfl e35 (by decide) (Nat.le_of_ble_eq_true rfl) (fun Q2 hQ2 => r_X6_across hX (d := (d + 3)) e37 hQ2) ?_
          obtain ⟨v38, e39, hF⟩ := mm_bind hF
          refine go_aI hX c_198 rfl e39 ?_
          refine go_adv hX c_198 2 (F2 := (103, [.int x3, .int (v31 + v38)], [(0, .ref x0), (1, .int x1), (3, .int x3), (4, .int x4), (5, .int x5)], h)) rfl ?_
          rcases mm_ite hF with ⟨hc40, hF⟩ | ⟨hc40, hF⟩
          · refine go_ct hX 109 c_198 rfl rfl hc40 ?_
            refine go_adv hX c_198 1 (F2 := (112, [], [(5, .int (x5 + ki 1)), (0, .ref x0), (1, .int x1), (3, .int x3), (4, .int x4)], h)) rfl ?_
            refine go_to hX 43 c_198 rfl rfl ?_
            refine go_ls [(0, .ref x0), (1, .int x1), (3, .int x3), (4, .int x4), (5, .int (x5 + ki 1))] ⟨rfl, ⟨rfl, ⟨rfl, ⟨rfl, ⟨rfl, trivial⟩⟩⟩⟩⟩ ?_
            exact ih x0 x1 x3 x4 (x5 + ki 1) h _ hF hR hE
          · refine go_cf hX c_198 rfl (by decide) hc40 ?_
            refine go_adv hX c_198 1 (F2 := (108, [.int x5], [(0, .ref x0), (1, .int x1), (3, .int x3), (4, .int x4), (5, .int x5)], h)) rfl ?_
            cases hF
            have hQ := hR _ rfl
            exact go_iret hX c_198 rfl rfl rfl hQ
theorem r_X6_first {X : mm_Cl} (hX : mm_mono X) {d c k : Nat} {Q : mm_Re → Prop} {h : mm_S} {x0 : Nat} {x1 : Int32} {x2 : Int32} {o : (Int32 × mm_S)} (hF : F_X6_first h x0 x1 x2 = some o) (hQ : Q (.inl (some (.int o.1)), o.2)) : mm_Run X (d + 6) 198 c k [.ref x0, .int x1, .int x2] h Q := by
  unfold F_X6_first at hF
  refine mm_Run_in (by decide) (by decide) (Nat.le_of_ble_eq_true rfl) ?_
  show mm_Ex (mm_Run X (d + 5)) 198 Q (0, [], [(0, .ref x0), (1, .int x1), (2, .int x2)], h) c k
  refine go_adv hX c_198 3 (F2 := (3, [.int x2, .int x1, .ref x0], [(0, .ref x0), (1, .int x1), (2, .int x2)], h)) rfl ?_
  obtain ⟨_, e1, hF⟩ := mm_bind hF
  obtain ⟨v2, e3, hF⟩ := mm_bind hF
  refine go_cV hX (As := [.int x1, .int x2]) (rv := some (.int v2.1)) (h2 := v2.2) (ci := 6) c_198 rfl (Nat.le_of_ble_eq_true rfl) rfl rfl e1 (by decide) (Nat.le_of_ble_eq_true rfl) (fun Q2 hQ2 => r_X6_wayTo hX (d := d) e3 hQ2) ?_
  refine go_adv hX c_198 2 (F2 := (8, [.ref x0], [(3, .int v2.1), (0, .ref x0), (1, .int x1), (2, .int x2)], v2.2)) rfl ?_
  obtain ⟨v4, e5, hF⟩ := mm_bind hF
  refine go_gI hX c_198 rfl e5 ?_
  rcases mm_ite hF with ⟨hc6, hF⟩ | ⟨hc6, hF⟩
  · refine go_zt hX 16 c_198 rfl rfl hc6 ?_
    refine go_adv hX c_198 1 (F2 := (17, [.int v2.1], [(3, .int v2.1), (0, .ref x0), (1, .int x1), (2, .int x2)], v2.2)) rfl ?_
    rcases mm_ite hF with ⟨hc7, hF⟩ | ⟨hc7, hF⟩
    · refine go_zt hX 26 c_198 rfl rfl hc7 ?_
      refine go_adv hX c_198 3 (F2 := (29, [.int x1, .int x2, .ref x0], [(3, .int v2.1), (0, .ref x0), (1, .int x1), (2, .int x2)], v2.2)) rfl ?_
      obtain ⟨_, e8, hF⟩ := mm_bind hF
      obtain ⟨v9, e10, hF⟩ := mm_bind hF
      refine go_cV hX (As := [.int x2, .int x1]) (rv := none) (h2 := v9) (ci := 6) c_198 rfl (Nat.le_of_ble_eq_true rfl) rfl rfl e8 (by decide) (Nat.le_of_ble_eq_true rfl) (fun Q2 hQ2 => r_X6_lays hX (d := (d + 1)) e10 hQ2) ?_
      refine go_adv hX c_198 3 (F2 := (35, [.int (ki 1), .int x1, .ref x0], [(3, .int v2.1), (0, .ref x0), (1, .int x1), (2, .int x2)], v9)) rfl ?_
      obtain ⟨_, e11, hF⟩ := mm_bind hF
      obtain ⟨v12, e13, hF⟩ := mm_bind hF
      refine go_cV hX (As := [.int x1, .int (ki 1)]) (rv := some (.int v12)) (h2 := v9) (ci := 6) c_198 rfl (Nat.le_of_ble_eq_true rfl) rfl rfl e11 (by decide) (Nat.le_of_ble_eq_true rfl) (fun Q2 hQ2 => r_X6_gv hX (d := (d + 4)) e13 hQ2) ?_
      refine go_adv hX c_198 3 (F2 := (43, [], [(5, .int (ki 0)), (4, .int v12), (3, .int v2.1), (0, .ref x0), (1, .int x1), (2, .int x2)], v9)) rfl ?_
      refine go_ls [(0, .ref x0), (1, .int x1), (3, .int v2.1), (4, .int v12), (5, .int (ki 0))] ⟨rfl, ⟨rfl, ⟨rfl, ⟨rfl, ⟨rfl, trivial⟩⟩⟩⟩⟩ ?_
      obtain ⟨o41, e42, hF⟩ := mm_bind hF
      refine r_X6_first_L43 hX 1000 x0 x1 v2.1 v12 (ki 0) v9 o41 e42 ?_ ?_
      · intro o41r hr
        subst hr
        dsimp only at hF
        cases hF
        exact hQ
      · intro o41e he
        subst he
        dsimp only at hF
        refine go_adv hX c_198 2 (F2 := (117, [.int (ki 2), .ref x0], [(0, .ref x0)], o41e)) rfl ?_
        obtain ⟨_, e43, hF⟩ := mm_bind hF
        obtain ⟨v44, e45, hF⟩ := mm_bind hF
        refine go_cV hX (As := [.int (ki 2)]) (rv := some (.int v44.1)) (h2 := v44.2) (ci := 6) c_198 rfl (Nat.le_of_ble_eq_true rfl) rfl rfl e43 (by decide) (Nat.le_of_ble_eq_true rfl) (fun Q2 hQ2 => r_X6_no hX (d := (d + 4)) e45 hQ2) ?_
        cases hF
        exact go_iret hX c_198 rfl rfl rfl hQ
    · refine go_zf hX c_198 rfl (by decide) hc7 ?_
      refine go_adv hX c_198 2 (F2 := (22, [.int (ki 2), .ref x0], [(3, .int v2.1), (0, .ref x0), (1, .int x1), (2, .int x2)], v2.2)) rfl ?_
      obtain ⟨_, e46, hF⟩ := mm_bind hF
      obtain ⟨v47, e48, hF⟩ := mm_bind hF
      refine go_cV hX (As := [.int (ki 2)]) (rv := some (.int v47.1)) (h2 := v47.2) (ci := 6) c_198 rfl (Nat.le_of_ble_eq_true rfl) rfl rfl e46 (by decide) (Nat.le_of_ble_eq_true rfl) (fun Q2 hQ2 => r_X6_no hX (d := (d + 4)) e48 hQ2) ?_
      cases hF
      exact go_iret hX c_198 rfl rfl rfl hQ
  · refine go_zf hX c_198 rfl (by decide) hc6 ?_
    refine go_adv hX c_198 1 (F2 := (15, [.int (ki 0)], [(3, .int v2.1), (0, .ref x0), (1, .int x1), (2, .int x2)], v2.2)) rfl ?_
    cases hF
    exact go_iret hX c_198 rfl rfl rfl hQ
theorem c_199 : mm_cd 199 = k_X6_reach := rfl
def F_X6_reach_L40 : Nat → Nat → Int32 → Int32 → mm_S → Option (Int32 × mm_S)
  | 0, _, _, _, _ => none
  | n + 1, x0, x2, x3, h =>
    if (kb 8) ≤ x3 then
      some ((x2, h))
    else
      (fx_gR h x0 6 15).bind fun v16 =>
      (fx_aI h v16 x3).bind fun v18 =>
      if (nI 1000000) ≤ v18 then
        F_X6_reach_L40 n x0 (x2 ||| (ki 0)) (x3 + ki 1) h
      else
        F_X6_reach_L40 n x0 (x2 ||| ((ki 1) <<< (x3 &&& 31))) (x3 + ki 1) h
def F_X6_reach_B13 (h : mm_S) (s0 : Int32) (s1 : Nat) (x0 : Nat) (x1 : Int32) : Option (Int32 × mm_S) :=
  (fx_pV h s1 6 5 (.int s0)).bind fun h4 =>
  (fx_gI h4 x0 6 5).bind fun v6 =>
  if v6 ≤ 0 then
    (fx_is h4 x0 6).bind fun _ =>
    (F_X6_gv h4 x0 x1 (ki 1)).bind fun v10 =>
    (fx_is h4 x0 6).bind fun _ =>
    (F_X6_lays h4 x0 v10 x1).bind fun v13 =>
    (F_X6_reach_L40 1000 x0 (ki 0) (ki 0) v13).bind fun o21 =>
    some (o21.1, o21.2)
  else
    some (ki 0, h4)
def F_X6_reach (h : mm_S) (x0 : Nat) (x1 : Int32) : Option (Int32 × mm_S) :=
  (F_X6_isGiant h x1).bind fun v1 =>
  if v1 = 0 then
    F_X6_reach_B13 h (ki 1) x0 x0 x1
  else
    F_X6_reach_B13 h (ki 0) x0 x0 x1
theorem r_X6_reach_L40 {X : mm_Cl} (hX : mm_mono X) {d c k : Nat} {Q : mm_Re → Prop} : ∀ (n : Nat) (x0 : Nat) (x2 : Int32) (x3 : Int32) (h : mm_S) (o : (Int32 × mm_S)), F_X6_reach_L40 n x0 x2 x3 h = some o → (mm_Ex (mm_Run X (d + 4)) 199 Q (73, [], [(2, .int o.1)], o.2) c k) → mm_Ex (mm_Run X (d + 4)) 199 Q (40, [], [(0, .ref x0), (2, .int x2), (3, .int x3)], h) c k := by
  intro n
  induction n with
  | zero => intro x0 x2 x3 h o hF; cases hF
  | succ n ih =>
    intro x0 x2 x3 h o hF hE
    unfold F_X6_reach_L40 at hF
    refine go_adv hX c_199 2 (F2 := (43, [.int (kb 8), .int x3], [(0, .ref x0), (2, .int x2), (3, .int x3)], h)) rfl ?_
    rcases mm_ite hF with ⟨hc15, hF⟩ | ⟨hc15, hF⟩
    · refine go_ct hX 73 c_199 rfl rfl hc15 ?_
      cases hF
      refine go_ls [(2, .int x2)] ⟨rfl, trivial⟩ ?_
      exact hE
    · refine go_cf hX c_199 rfl (by decide) hc15 ?_
      refine go_adv hX c_199 2 (F2 := (48, [.ref x0, .int x2], [(0, .ref x0), (2, .int x2), (3, .int x3)], h)) rfl ?_
      obtain ⟨v16, e17, hF⟩ := mm_bind hF
      refine go_gR hX c_199 rfl e17 ?_
      refine go_adv hX c_199 1 (F2 := (52, [.int x3, .ref v16, .int x2], [(0, .ref x0), (2, .int x2), (3, .int x3)], h)) rfl ?_
      obtain ⟨v18, e19, hF⟩ := mm_bind hF
      refine go_aI hX c_199 rfl e19 ?_
      refine go_adv hX c_199 1 (F2 := (55, [.int (nI 1000000), .int v18, .int x2], [(0, .ref x0), (2, .int x2), (3, .int x3)], h)) rfl ?_
      rcases mm_ite hF with ⟨hc20, hF⟩ | ⟨hc20, hF⟩
      · refine go_ct hX 64 c_199 rfl rfl hc20 ?_
        refine go_adv hX c_199 4 (F2 := (70, [], [(3, .int (x3 + ki 1)), (2, .int (x2 ||| (ki 0))), (0, .ref x0)], h)) rfl ?_
        refine go_to hX 40 c_199 rfl rfl ?_
        refine go_ls [(0, .ref x0), (2, .int (x2 ||| (ki 0))), (3, .int (x3 + ki 1))] ⟨rfl, ⟨rfl, ⟨rfl, trivial⟩⟩⟩ ?_
        exact ih x0 (x2 ||| (ki 0)) (x3 + ki 1) h _ hF hE
      · refine go_cf hX c_199 rfl (by decide) hc20 ?_
        refine go_adv hX c_199 3 (F2 := (61, [.int ((ki 1) <<< (x3 &&& 31)), .int x2], [(0, .ref x0), (2, .int x2), (3, .int x3)], h)) rfl ?_
        refine go_to hX 65 c_199 rfl rfl ?_
        refine go_adv hX c_199 3 (F2 := (70, [], [(3, .int (x3 + ki 1)), (2, .int (x2 ||| ((ki 1) <<< (x3 &&& 31)))), (0, .ref x0)], h)) rfl ?_
        refine go_to hX 40 c_199 rfl rfl ?_
        refine go_ls [(0, .ref x0), (2, .int (x2 ||| ((ki 1) <<< (x3 &&& 31)))), (3, .int (x3 + ki 1))] ⟨rfl, ⟨rfl, ⟨rfl, trivial⟩⟩⟩ ?_
        exact ih x0 (x2 ||| ((ki 1) <<< (x3 &&& 31))) (x3 + ki 1) h _ hF hE
theorem r_X6_reach_B13 {X : mm_Cl} (hX : mm_mono X) {d c k : Nat} {Q : mm_Re → Prop} {h : mm_S} {s0 : Int32} {s1 : Nat} {x0 : Nat} {x1 : Int32} {o : (Int32 × mm_S)} (hF : F_X6_reach_B13 h s0 s1 x0 x1 = some o) (hQ : Q (.inl (some (.int o.1)), o.2)) : mm_Ex (mm_Run X (d + 4)) 199 Q (13, [.int s0, .ref s1], [(0, .ref x0), (1, .int x1)], h) c k := by
  unfold F_X6_reach_B13 at hF
  obtain ⟨h4, e5, hF⟩ := mm_bind hF
  refine go_pV hX c_199 rfl e5 ?_
  refine go_adv hX c_199 1 (F2 := (17, [.ref x0], [(0, .ref x0), (1, .int x1)], h4)) rfl ?_
  obtain ⟨v6, e7, hF⟩ := mm_bind hF
  refine go_gI hX c_199 rfl e7 ?_
  rcases mm_ite hF with ⟨hc8, hF⟩ | ⟨hc8, hF⟩
  · refine go_zt hX 25 c_199 rfl rfl hc8 ?_
    refine go_adv hX c_199 4 (F2 := (29, [.int (ki 1), .int x1, .ref x0, .ref x0], [(0, .ref x0), (1, .int x1)], h4)) rfl ?_
    obtain ⟨_, e9, hF⟩ := mm_bind hF
    obtain ⟨v10, e11, hF⟩ := mm_bind hF
    refine go_cV hX (As := [.int x1, .int (ki 1)]) (rv := some (.int v10)) (h2 := h4) (ci := 6) c_199 rfl (Nat.le_of_ble_eq_true rfl) rfl rfl e9 (by decide) (Nat.le_of_ble_eq_true rfl) (fun Q2 hQ2 => r_X6_gv hX (d := (d + 3)) e11 hQ2) ?_
    refine go_adv hX c_199 1 (F2 := (33, [.int x1, .int v10, .ref x0], [(0, .ref x0), (1, .int x1)], h4)) rfl ?_
    obtain ⟨_, e12, hF⟩ := mm_bind hF
    obtain ⟨v13, e14, hF⟩ := mm_bind hF
    refine go_cV hX (As := [.int v10, .int x1]) (rv := none) (h2 := v13) (ci := 6) c_199 rfl (Nat.le_of_ble_eq_true rfl) rfl rfl e12 (by decide) (Nat.le_of_ble_eq_true rfl) (fun Q2 hQ2 => r_X6_lays hX (d := d) e14 hQ2) ?_
    refine go_adv hX c_199 4 (F2 := (40, [], [(3, .int (ki 0)), (2, .int (ki 0)), (0, .ref x0), (1, .int x1)], v13)) rfl ?_
    refine go_ls [(0, .ref x0), (2, .int (ki 0)), (3, .int (ki 0))] ⟨rfl, ⟨rfl, ⟨rfl, trivial⟩⟩⟩ ?_
    obtain ⟨o21, e22, hF⟩ := mm_bind hF
    refine r_X6_reach_L40 hX 1000 x0 (ki 0) (ki 0) v13 o21 e22 ?_
    refine go_adv hX c_199 1 (F2 := (74, [.int o21.1], [(2, .int o21.1)], o21.2)) rfl ?_
    cases hF
    exact go_iret hX c_199 rfl rfl rfl hQ
  · refine go_zf hX c_199 rfl (by decide) hc8 ?_
    refine go_adv hX c_199 1 (F2 := (24, [.int (ki 0)], [(0, .ref x0), (1, .int x1)], h4)) rfl ?_
    cases hF
    exact go_iret hX c_199 rfl rfl rfl hQ
theorem r_X6_reach {X : mm_Cl} (hX : mm_mono X) {d c k : Nat} {Q : mm_Re → Prop} {h : mm_S} {x0 : Nat} {x1 : Int32} {o : (Int32 × mm_S)} (hF : F_X6_reach h x0 x1 = some o) (hQ : Q (.inl (some (.int o.1)), o.2)) : mm_Run X (d + 5) 199 c k [.ref x0, .int x1] h Q := by
  unfold F_X6_reach at hF
  refine mm_Run_in (by decide) (by decide) (Nat.le_of_ble_eq_true rfl) ?_
  show mm_Ex (mm_Run X (d + 4)) 199 Q (0, [], [(0, .ref x0), (1, .int x1)], h) c k
  refine go_adv hX c_199 2 (F2 := (2, [.int x1, .ref x0], [(0, .ref x0), (1, .int x1)], h)) rfl ?_
  obtain ⟨v1, e2, hF⟩ := mm_bind hF
  refine go_cS hX (As := [.int x1]) (rv := some (.int v1)) (h2 := h) c_199 rfl (by decide) (Nat.le_of_ble_eq_true rfl) rfl rfl (Nat.le_of_ble_eq_true rfl) (fun Q2 hQ2 => r_X6_isGiant hX (d := (d + 2)) e2 hQ2) ?_
  rcases mm_ite hF with ⟨hc3, hF⟩ | ⟨hc3, hF⟩
  · refine go_zt hX 12 c_199 rfl rfl hc3 ?_
    refine go_adv hX c_199 1 (F2 := (13, [.int (ki 1), .ref x0], [(0, .ref x0), (1, .int x1)], h)) rfl ?_
    refine go_ls [(0, .ref x0), (1, .int x1)] ⟨rfl, ⟨rfl, trivial⟩⟩ ?_
    exact r_X6_reach_B13 hX hF hQ
  · refine go_zf hX c_199 rfl (by decide) hc3 ?_
    refine go_adv hX c_199 1 (F2 := (9, [.int (ki 0), .ref x0], [(0, .ref x0), (1, .int x1)], h)) rfl ?_
    refine go_to hX 13 c_199 rfl rfl ?_
    refine go_ls [(0, .ref x0), (1, .int x1)] ⟨rfl, ⟨rfl, trivial⟩⟩ ?_
    exact r_X6_reach_B13 hX hF hQ
theorem c_200 : mm_cd 200 = k_X6_areDays := rfl
def F_X6_areDays (h : mm_S) (x0 : Int32) : Option Int32 :=
  (F_X6_in h x0 (ki 0) (kb 40)).bind fun v1 =>
  (fx_nar .boolean v1).bind fun v3 =>
  some v3
theorem r_X6_areDays {X : mm_Cl} (hX : mm_mono X) {d c k : Nat} {Q : mm_Re → Prop} {h : mm_S} {x0 : Int32} {o : Int32} (hF : F_X6_areDays h x0 = some o) (hQ : Q (.inl (some (.int o)), h)) : mm_Run X (d + 2) 200 c k [.int x0] h Q := by
  unfold F_X6_areDays at hF
  refine mm_Run_in (by decide) (by decide) (Nat.le_of_ble_eq_true rfl) ?_
  show mm_Ex (mm_Run X (d + 1)) 200 Q (0, [], [(0, .int x0)], h) c k
  refine go_adv hX c_200 3 (F2 := (4, [.int (kb 40), .int (ki 0), .int x0], [(0, .int x0)], h)) rfl ?_
  obtain ⟨v1, e2, hF⟩ := mm_bind hF
  refine go_cS hX (As := [.int x0, .int (ki 0), .int (kb 40)]) (rv := some (.int v1)) (h2 := h) c_200 rfl (by decide) (Nat.le_of_ble_eq_true rfl) rfl rfl (Nat.le_of_ble_eq_true rfl) (fun Q2 hQ2 => r_X6_in hX (d := d) e2 hQ2) ?_
  obtain ⟨v3, e4, hF⟩ := mm_bind hF
  obtain ⟨rfl, e4n⟩ := fx_nar_s e4
  cases hF
  exact go_iret hX c_200 rfl rfl e4n hQ
theorem c_201 : mm_cd 201 = k_X6_dustBy := rfl
def F_X6_dustBy_B25 (h : mm_S) (s0 : Int32) (s1 : Nat) (x0 : Nat) (x1 : Int32) (x2 : Int32) : Option (Int32 × mm_S) :=
  (fx_pV h s1 6 5 (.int s0)).bind fun h8 =>
  (fx_gI h8 x0 6 5).bind fun v10 =>
  if v10 ≤ 0 then
    (fx_is h8 x0 6).bind fun _ =>
    (F_X6_sv h8 x0 x1 (ki 3)).bind fun v14 =>
    (fx_is h8 x0 6).bind fun _ =>
    (F_X6_sv h8 x0 x1 (ki 2)).bind fun v17 =>
    (fx_div v17 (ki 5)).bind fun v19 =>
    (F_X6_least h8 (kb 20) (v14 + (x2 * (v19 + (ki 1))))).bind fun v21 =>
    some (v21, h8)
  else
    some (ki 0, h8)
def F_X6_dustBy (h : mm_S) (x0 : Nat) (x1 : Int32) (x2 : Int32) : Option (Int32 × mm_S) :=
  (fx_is h x0 6).bind fun _ =>
  (F_X6_isStair h x0 x1).bind fun v2 =>
  if v2 ≠ 0 then
    (F_X6_areDays h x2).bind fun v5 =>
    if v5 = 0 then
      F_X6_dustBy_B25 h (ki 2) x0 x0 x1 x2
    else
      F_X6_dustBy_B25 h (ki 0) x0 x0 x1 x2
  else
    F_X6_dustBy_B25 h (ki 1) x0 x0 x1 x2
theorem r_X6_dustBy_B25 {X : mm_Cl} (hX : mm_mono X) {d c k : Nat} {Q : mm_Re → Prop} {h : mm_S} {s0 : Int32} {s1 : Nat} {x0 : Nat} {x1 : Int32} {x2 : Int32} {o : (Int32 × mm_S)} (hF : F_X6_dustBy_B25 h s0 s1 x0 x1 x2 = some o) (hQ : Q (.inl (some (.int o.1)), o.2)) : mm_Ex (mm_Run X (d + 2)) 201 Q (25, [.int s0, .ref s1], [(0, .ref x0), (1, .int x1), (2, .int x2)], h) c k := by
  unfold F_X6_dustBy_B25 at hF
  obtain ⟨h8, e9, hF⟩ := mm_bind hF
  refine go_pV hX c_201 rfl e9 ?_
  refine go_adv hX c_201 1 (F2 := (29, [.ref x0], [(0, .ref x0), (1, .int x1), (2, .int x2)], h8)) rfl ?_
  obtain ⟨v10, e11, hF⟩ := mm_bind hF
  refine go_gI hX c_201 rfl e11 ?_
  rcases mm_ite hF with ⟨hc12, hF⟩ | ⟨hc12, hF⟩
  · refine go_zt hX 39 c_201 rfl rfl hc12 ?_
    refine go_adv hX c_201 4 (F2 := (44, [.int (ki 3), .int x1, .ref x0, .int (kb 20)], [(0, .ref x0), (1, .int x1), (2, .int x2)], h8)) rfl ?_
    obtain ⟨_, e13, hF⟩ := mm_bind hF
    obtain ⟨v14, e15, hF⟩ := mm_bind hF
    refine go_cV hX (As := [.int x1, .int (ki 3)]) (rv := some (.int v14)) (h2 := h8) (ci := 6) c_201 rfl (Nat.le_of_ble_eq_true rfl) rfl rfl e13 (by decide) (Nat.le_of_ble_eq_true rfl) (fun Q2 hQ2 => r_X6_sv hX (d := (d + 1)) e15 hQ2) ?_
    refine go_adv hX c_201 4 (F2 := (51, [.int (ki 2), .int x1, .ref x0, .int x2, .int v14, .int (kb 20)], [(0, .ref x0), (1, .int x1), (2, .int x2)], h8)) rfl ?_
    obtain ⟨_, e16, hF⟩ := mm_bind hF
    obtain ⟨v17, e18, hF⟩ := mm_bind hF
    refine go_cV hX (As := [.int x1, .int (ki 2)]) (rv := some (.int v17)) (h2 := h8) (ci := 6) c_201 rfl (Nat.le_of_ble_eq_true rfl) rfl rfl e16 (by decide) (Nat.le_of_ble_eq_true rfl) (fun Q2 hQ2 => r_X6_sv hX (d := (d + 1)) e18 hQ2) ?_
    refine go_adv hX c_201 1 (F2 := (55, [.int (ki 5), .int v17, .int x2, .int v14, .int (kb 20)], [(0, .ref x0), (1, .int x1), (2, .int x2)], h8)) rfl ?_
    obtain ⟨v19, e20, hF⟩ := mm_bind hF
    refine go_div hX c_201 rfl e20 ?_
    refine go_adv hX c_201 4 (F2 := (60, [.int (v14 + (x2 * (v19 + (ki 1)))), .int (kb 20)], [(0, .ref x0), (1, .int x1), (2, .int x2)], h8)) rfl ?_
    obtain ⟨v21, e22, hF⟩ := mm_bind hF
    refine go_cS hX (As := [.int (kb 20), .int (v14 + (x2 * (v19 + (ki 1))))]) (rv := some (.int v21)) (h2 := h8) c_201 rfl (by decide) (Nat.le_of_ble_eq_true rfl) rfl rfl (Nat.le_of_ble_eq_true rfl) (fun Q2 hQ2 => r_X6_least hX (d := (d + 1)) e22 hQ2) ?_
    cases hF
    exact go_iret hX c_201 rfl rfl rfl hQ
  · refine go_zf hX c_201 rfl (by decide) hc12 ?_
    refine go_adv hX c_201 1 (F2 := (36, [.int (ki 0)], [(0, .ref x0), (1, .int x1), (2, .int x2)], h8)) rfl ?_
    refine go_to hX 63 c_201 rfl rfl ?_
    cases hF
    exact go_iret hX c_201 rfl rfl rfl hQ
theorem r_X6_dustBy {X : mm_Cl} (hX : mm_mono X) {d c k : Nat} {Q : mm_Re → Prop} {h : mm_S} {x0 : Nat} {x1 : Int32} {x2 : Int32} {o : (Int32 × mm_S)} (hF : F_X6_dustBy h x0 x1 x2 = some o) (hQ : Q (.inl (some (.int o.1)), o.2)) : mm_Run X (d + 3) 201 c k [.ref x0, .int x1, .int x2] h Q := by
  unfold F_X6_dustBy at hF
  refine mm_Run_in (by decide) (by decide) (Nat.le_of_ble_eq_true rfl) ?_
  show mm_Ex (mm_Run X (d + 2)) 201 Q (0, [], [(0, .ref x0), (1, .int x1), (2, .int x2)], h) c k
  refine go_adv hX c_201 3 (F2 := (3, [.int x1, .ref x0, .ref x0], [(0, .ref x0), (1, .int x1), (2, .int x2)], h)) rfl ?_
  obtain ⟨_, e1, hF⟩ := mm_bind hF
  obtain ⟨v2, e3, hF⟩ := mm_bind hF
  refine go_cV hX (As := [.int x1]) (rv := some (.int v2)) (h2 := h) (ci := 6) c_201 rfl (Nat.le_of_ble_eq_true rfl) rfl rfl e1 (by decide) (Nat.le_of_ble_eq_true rfl) (fun Q2 hQ2 => r_X6_isStair hX (d := d) e3 hQ2) ?_
  rcases mm_ite hF with ⟨hc4, hF⟩ | ⟨hc4, hF⟩
  · refine go_zt hX 13 c_201 rfl rfl hc4 ?_
    refine go_adv hX c_201 1 (F2 := (14, [.int x2, .ref x0], [(0, .ref x0), (1, .int x1), (2, .int x2)], h)) rfl ?_
    obtain ⟨v5, e6, hF⟩ := mm_bind hF
    refine go_cS hX (As := [.int x2]) (rv := some (.int v5)) (h2 := h) c_201 rfl (by decide) (Nat.le_of_ble_eq_true rfl) rfl rfl (Nat.le_of_ble_eq_true rfl) (fun Q2 hQ2 => r_X6_areDays hX (d := d) e6 hQ2) ?_
    rcases mm_ite hF with ⟨hc7, hF⟩ | ⟨hc7, hF⟩
    · refine go_zt hX 24 c_201 rfl rfl hc7 ?_
      refine go_adv hX c_201 1 (F2 := (25, [.int (ki 2), .ref x0], [(0, .ref x0), (1, .int x1), (2, .int x2)], h)) rfl ?_
      refine go_ls [(0, .ref x0), (1, .int x1), (2, .int x2)] ⟨rfl, ⟨rfl, ⟨rfl, trivial⟩⟩⟩ ?_
      exact r_X6_dustBy_B25 hX hF hQ
    · refine go_zf hX c_201 rfl (by decide) hc7 ?_
      refine go_adv hX c_201 1 (F2 := (21, [.int (ki 0), .ref x0], [(0, .ref x0), (1, .int x1), (2, .int x2)], h)) rfl ?_
      refine go_to hX 25 c_201 rfl rfl ?_
      refine go_ls [(0, .ref x0), (1, .int x1), (2, .int x2)] ⟨rfl, ⟨rfl, ⟨rfl, trivial⟩⟩⟩ ?_
      exact r_X6_dustBy_B25 hX hF hQ
  · refine go_zf hX c_201 rfl (by decide) hc4 ?_
    refine go_adv hX c_201 1 (F2 := (10, [.int (ki 1), .ref x0], [(0, .ref x0), (1, .int x1), (2, .int x2)], h)) rfl ?_
    refine go_to hX 25 c_201 rfl rfl ?_
    refine go_ls [(0, .ref x0), (1, .int x1), (2, .int x2)] ⟨rfl, ⟨rfl, ⟨rfl, trivial⟩⟩⟩ ?_
    exact r_X6_dustBy_B25 hX hF hQ
theorem c_202 : mm_cd 202 = k_X6_dustIn := rfl
def F_X6_dustIn (h : mm_S) (x0 : Nat) (x1 : Int32) (x2 : Int32) : Option (Int32 × mm_S) :=
  (fx_is h x0 6).bind fun _ =>
  (F_X6_dustBy h x0 x1 x2).bind fun v2 =>
  some (v2.1, v2.2)
theorem r_X6_dustIn {X : mm_Cl} (hX : mm_mono X) {d c k : Nat} {Q : mm_Re → Prop} {h : mm_S} {x0 : Nat} {x1 : Int32} {x2 : Int32} {o : (Int32 × mm_S)} (hF : F_X6_dustIn h x0 x1 x2 = some o) (hQ : Q (.inl (some (.int o.1)), o.2)) : mm_Run X (d + 4) 202 c k [.ref x0, .int x1, .int x2] h Q := by
  unfold F_X6_dustIn at hF
  refine mm_Run_in (by decide) (by decide) (Nat.le_of_ble_eq_true rfl) ?_
  show mm_Ex (mm_Run X (d + 3)) 202 Q (0, [], [(0, .ref x0), (1, .int x1), (2, .int x2)], h) c k
  refine go_adv hX c_202 3 (F2 := (3, [.int x2, .int x1, .ref x0], [(0, .ref x0), (1, .int x1), (2, .int x2)], h)) rfl ?_
  obtain ⟨_, e1, hF⟩ := mm_bind hF
  obtain ⟨v2, e3, hF⟩ := mm_bind hF
  refine go_cV hX (As := [.int x1, .int x2]) (rv := some (.int v2.1)) (h2 := v2.2) (ci := 6) c_202 rfl (Nat.le_of_ble_eq_true rfl) rfl rfl e1 (by decide) (Nat.le_of_ble_eq_true rfl) (fun Q2 hQ2 => r_X6_dustBy hX (d := d) e3 hQ2) ?_
  cases hF
  exact go_iret hX c_202 rfl rfl rfl hQ
theorem c_203 : mm_cd 203 = k_X6_dustAgain := rfl
def F_X6_dustAgain (h : mm_S) (x0 : Nat) (x1 : Int32) (x2 : Int32) : Option (Int32 × mm_S) :=
  (fx_is h x0 6).bind fun _ =>
  (F_X6_dustBy h x0 x1 x2).bind fun v2 =>
  some (v2.1, v2.2)
theorem r_X6_dustAgain {X : mm_Cl} (hX : mm_mono X) {d c k : Nat} {Q : mm_Re → Prop} {h : mm_S} {x0 : Nat} {x1 : Int32} {x2 : Int32} {o : (Int32 × mm_S)} (hF : F_X6_dustAgain h x0 x1 x2 = some o) (hQ : Q (.inl (some (.int o.1)), o.2)) : mm_Run X (d + 4) 203 c k [.ref x0, .int x1, .int x2] h Q := by
  unfold F_X6_dustAgain at hF
  refine mm_Run_in (by decide) (by decide) (Nat.le_of_ble_eq_true rfl) ?_
  show mm_Ex (mm_Run X (d + 3)) 203 Q (0, [], [(0, .ref x0), (1, .int x1), (2, .int x2)], h) c k
  refine go_adv hX c_203 3 (F2 := (3, [.int x2, .int x1, .ref x0], [(0, .ref x0), (1, .int x1), (2, .int x2)], h)) rfl ?_
  obtain ⟨_, e1, hF⟩ := mm_bind hF
  obtain ⟨v2, e3, hF⟩ := mm_bind hF
  refine go_cV hX (As := [.int x1, .int x2]) (rv := some (.int v2.1)) (h2 := v2.2) (ci := 6) c_203 rfl (Nat.le_of_ble_eq_true rfl) rfl rfl e1 (by decide) (Nat.le_of_ble_eq_true rfl) (fun Q2 hQ2 => r_X6_dustBy hX (d := d) e3 hQ2) ?_
  cases hF
  exact go_iret hX c_203 rfl rfl rfl hQ
theorem c_204 : mm_cd 204 = k_X6_rentsIn := rfl
def F_X6_rentsIn_L42 : Nat → Nat → Int32 → Int32 → Int32 → mm_S → Option (Int32 × mm_S)
  | 0, _, _, _, _, _ => none
  | n + 1, x0, x1, x2, x3, h =>
    if x1 ≤ x3 then
      some ((x2, h))
    else
      (fx_is h x0 6).bind fun _ =>
      (F_X6_goesBy h x0).bind fun v17 =>
      F_X6_rentsIn_L42 n x0 x1 (x2 + v17.1) (x3 + ki 1) v17.2
def F_X6_rentsIn_B13 (h : mm_S) (s0 : Int32) (s1 : Nat) (x0 : Nat) (x1 : Int32) : Option (Int32 × mm_S) :=
  (fx_pV h s1 6 5 (.int s0)).bind fun h4 =>
  (fx_gI h4 x0 6 5).bind fun v6 =>
  if v6 ≤ 0 then
    (fx_gR h4 x0 6 0).bind fun v9 =>
    (fx_gR h4 x0 6 2).bind fun v11 =>
    (F_X6_copies h4 v9 (ki 0) v11 (ki 0)).bind fun v13 =>
    (F_X6_rentsIn_L42 1000 x0 x1 (ki 0) (ki 0) v13).bind fun o19 =>
    (fx_gR o19.2 x0 6 2).bind fun v21 =>
    (fx_gR o19.2 x0 6 0).bind fun v23 =>
    (F_X6_copies o19.2 v21 (ki 0) v23 (ki 0)).bind fun v25 =>
    some (o19.1, v25)
  else
    some (ki 0, h4)
def F_X6_rentsIn (h : mm_S) (x0 : Nat) (x1 : Int32) : Option (Int32 × mm_S) :=
  (F_X6_areDays h x1).bind fun v1 =>
  if v1 = 0 then
    F_X6_rentsIn_B13 h (ki 1) x0 x0 x1
  else
    F_X6_rentsIn_B13 h (ki 0) x0 x0 x1
theorem r_X6_rentsIn_L42 {X : mm_Cl} (hX : mm_mono X) {d c k : Nat} {Q : mm_Re → Prop} : ∀ (n : Nat) (x0 : Nat) (x1 : Int32) (x2 : Int32) (x3 : Int32) (h : mm_S) (o : (Int32 × mm_S)), F_X6_rentsIn_L42 n x0 x1 x2 x3 h = some o → (mm_Ex (mm_Run X (d + 4)) 204 Q (60, [], [(0, .ref x0), (2, .int o.1)], o.2) c k) → mm_Ex (mm_Run X (d + 4)) 204 Q (42, [], [(0, .ref x0), (1, .int x1), (2, .int x2), (3, .int x3)], h) c k := by
  intro n
  induction n with
  | zero => intro x0 x1 x2 x3 h o hF; cases hF
  | succ n ih =>
    intro x0 x1 x2 x3 h o hF hE
    unfold F_X6_rentsIn_L42 at hF
    refine go_adv hX c_204 2 (F2 := (44, [.int x1, .int x3], [(0, .ref x0), (1, .int x1), (2, .int x2), (3, .int x3)], h)) rfl ?_
    rcases mm_ite hF with ⟨hc15, hF⟩ | ⟨hc15, hF⟩
    · refine go_ct hX 60 c_204 rfl rfl hc15 ?_
      cases hF
      refine go_ls [(0, .ref x0), (2, .int x2)] ⟨rfl, ⟨rfl, trivial⟩⟩ ?_
      exact hE
    · refine go_cf hX c_204 rfl (by decide) hc15 ?_
      refine go_adv hX c_204 2 (F2 := (49, [.ref x0, .int x2], [(0, .ref x0), (1, .int x1), (2, .int x2), (3, .int x3)], h)) rfl ?_
      obtain ⟨_, e16, hF⟩ := mm_bind hF
      obtain ⟨v17, e18, hF⟩ := mm_bind hF
      refine go_cV hX (As := []) (rv := some (.int v17.1)) (h2 := v17.2) (ci := 6) c_204 rfl (Nat.le_of_ble_eq_true rfl) rfl rfl e16 (by decide) (Nat.le_of_ble_eq_true rfl) (fun Q2 hQ2 => r_X6_goesBy hX (d := d) e18 hQ2) ?_
      refine go_adv hX c_204 3 (F2 := (57, [], [(3, .int (x3 + ki 1)), (2, .int (x2 + v17.1)), (0, .ref x0), (1, .int x1)], v17.2)) rfl ?_
      refine go_to hX 42 c_204 rfl rfl ?_
      refine go_ls [(0, .ref x0), (1, .int x1), (2, .int (x2 + v17.1)), (3, .int (x3 + ki 1))] ⟨rfl, ⟨rfl, ⟨rfl, ⟨rfl, trivial⟩⟩⟩⟩ ?_
      exact ih x0 x1 (x2 + v17.1) (x3 + ki 1) v17.2 _ hF hE
theorem r_X6_rentsIn_B13 {X : mm_Cl} (hX : mm_mono X) {d c k : Nat} {Q : mm_Re → Prop} {h : mm_S} {s0 : Int32} {s1 : Nat} {x0 : Nat} {x1 : Int32} {o : (Int32 × mm_S)} (hF : F_X6_rentsIn_B13 h s0 s1 x0 x1 = some o) (hQ : Q (.inl (some (.int o.1)), o.2)) : mm_Ex (mm_Run X (d + 4)) 204 Q (13, [.int s0, .ref s1], [(0, .ref x0), (1, .int x1)], h) c k := by
  unfold F_X6_rentsIn_B13 at hF
  obtain ⟨h4, e5, hF⟩ := mm_bind hF
  refine go_pV hX c_204 rfl e5 ?_
  refine go_adv hX c_204 1 (F2 := (17, [.ref x0], [(0, .ref x0), (1, .int x1)], h4)) rfl ?_
  obtain ⟨v6, e7, hF⟩ := mm_bind hF
  refine go_gI hX c_204 rfl e7 ?_
  rcases mm_ite hF with ⟨hc8, hF⟩ | ⟨hc8, hF⟩
  · refine go_zt hX 25 c_204 rfl rfl hc8 ?_
    refine go_adv hX c_204 1 (F2 := (26, [.ref x0], [(0, .ref x0), (1, .int x1)], h4)) rfl ?_
    obtain ⟨v9, e10, hF⟩ := mm_bind hF
    refine go_gR hX c_204 rfl e10 ?_
    refine go_adv hX c_204 2 (F2 := (31, [.ref x0, .int (ki 0), .ref v9], [(0, .ref x0), (1, .int x1)], h4)) rfl ?_
    obtain ⟨v11, e12, hF⟩ := mm_bind hF
    refine go_gR hX c_204 rfl e12 ?_
    refine go_adv hX c_204 1 (F2 := (35, [.int (ki 0), .ref v11, .int (ki 0), .ref v9], [(0, .ref x0), (1, .int x1)], h4)) rfl ?_
    obtain ⟨v13, e14, hF⟩ := mm_bind hF
    refine go_cS hX (As := [.ref v9, .int (ki 0), .ref v11, .int (ki 0)]) (rv := none) (h2 := v13) c_204 rfl (by decide) (Nat.le_of_ble_eq_true rfl) rfl rfl (Nat.le_of_ble_eq_true rfl) (fun Q2 hQ2 => r_X6_copies hX (d := (d + 3)) e14 hQ2) ?_
    refine go_adv hX c_204 4 (F2 := (42, [], [(3, .int (ki 0)), (2, .int (ki 0)), (0, .ref x0), (1, .int x1)], v13)) rfl ?_
    refine go_ls [(0, .ref x0), (1, .int x1), (2, .int (ki 0)), (3, .int (ki 0))] ⟨rfl, ⟨rfl, ⟨rfl, ⟨rfl, trivial⟩⟩⟩⟩ ?_
    obtain ⟨o19, e20, hF⟩ := mm_bind hF
    refine r_X6_rentsIn_L42 hX 1000 x0 x1 (ki 0) (ki 0) v13 o19 e20 ?_
    refine go_adv hX c_204 1 (F2 := (61, [.ref x0], [(0, .ref x0), (2, .int o19.1)], o19.2)) rfl ?_
    obtain ⟨v21, e22, hF⟩ := mm_bind hF
    refine go_gR hX c_204 rfl e22 ?_
    refine go_adv hX c_204 2 (F2 := (66, [.ref x0, .int (ki 0), .ref v21], [(0, .ref x0), (2, .int o19.1)], o19.2)) rfl ?_
    obtain ⟨v23, e24, hF⟩ := mm_bind hF
    refine go_gR hX c_204 rfl e24 ?_
    refine go_adv hX c_204 1 (F2 := (70, [.int (ki 0), .ref v23, .int (ki 0), .ref v21], [(0, .ref x0), (2, .int o19.1)], o19.2)) rfl ?_
    obtain ⟨v25, e26, hF⟩ := mm_bind hF
    refine go_cS hX (As := [.ref v21, .int (ki 0), .ref v23, .int (ki 0)]) (rv := none) (h2 := v25) c_204 rfl (by decide) (Nat.le_of_ble_eq_true rfl) rfl rfl (Nat.le_of_ble_eq_true rfl) (fun Q2 hQ2 => r_X6_copies hX (d := (d + 3)) e26 hQ2) ?_
    refine go_adv hX c_204 1 (F2 := (74, [.int o19.1], [(0, .ref x0), (2, .int o19.1)], v25)) rfl ?_
    cases hF
    exact go_iret hX c_204 rfl rfl rfl hQ
  · refine go_zf hX c_204 rfl (by decide) hc8 ?_
    refine go_adv hX c_204 1 (F2 := (24, [.int (ki 0)], [(0, .ref x0), (1, .int x1)], h4)) rfl ?_
    cases hF
    exact go_iret hX c_204 rfl rfl rfl hQ
theorem r_X6_rentsIn {X : mm_Cl} (hX : mm_mono X) {d c k : Nat} {Q : mm_Re → Prop} {h : mm_S} {x0 : Nat} {x1 : Int32} {o : (Int32 × mm_S)} (hF : F_X6_rentsIn h x0 x1 = some o) (hQ : Q (.inl (some (.int o.1)), o.2)) : mm_Run X (d + 5) 204 c k [.ref x0, .int x1] h Q := by
  unfold F_X6_rentsIn at hF
  refine mm_Run_in (by decide) (by decide) (Nat.le_of_ble_eq_true rfl) ?_
  show mm_Ex (mm_Run X (d + 4)) 204 Q (0, [], [(0, .ref x0), (1, .int x1)], h) c k
  refine go_adv hX c_204 2 (F2 := (2, [.int x1, .ref x0], [(0, .ref x0), (1, .int x1)], h)) rfl ?_
  obtain ⟨v1, e2, hF⟩ := mm_bind hF
  refine go_cS hX (As := [.int x1]) (rv := some (.int v1)) (h2 := h) c_204 rfl (by decide) (Nat.le_of_ble_eq_true rfl) rfl rfl (Nat.le_of_ble_eq_true rfl) (fun Q2 hQ2 => r_X6_areDays hX (d := (d + 2)) e2 hQ2) ?_
  rcases mm_ite hF with ⟨hc3, hF⟩ | ⟨hc3, hF⟩
  · refine go_zt hX 12 c_204 rfl rfl hc3 ?_
    refine go_adv hX c_204 1 (F2 := (13, [.int (ki 1), .ref x0], [(0, .ref x0), (1, .int x1)], h)) rfl ?_
    refine go_ls [(0, .ref x0), (1, .int x1)] ⟨rfl, ⟨rfl, trivial⟩⟩ ?_
    exact r_X6_rentsIn_B13 hX hF hQ
  · refine go_zf hX c_204 rfl (by decide) hc3 ?_
    refine go_adv hX c_204 1 (F2 := (9, [.int (ki 0), .ref x0], [(0, .ref x0), (1, .int x1)], h)) rfl ?_
    refine go_to hX 13 c_204 rfl rfl ?_
    refine go_ls [(0, .ref x0), (1, .int x1)] ⟨rfl, ⟨rfl, trivial⟩⟩ ?_
    exact r_X6_rentsIn_B13 hX hF hQ
theorem c_205 : mm_cd 205 = k_X6_couldLevy := rfl
def F_X6_couldLevy (h : mm_S) (x0 : Nat) (x1 : Int32) (x2 : Int32) : Option (Int32 × mm_S) :=
  (fx_is h x0 6).bind fun _ =>
  (F_X6_isRefusedLevy h x0 x1 x2).bind fun v2 =>
  if v2.1 = 0 then
    (fx_is v2.2 x0 6).bind fun _ =>
    (F_X6_levyBy v2.2 x0 x1 x2).bind fun v6 =>
    some (v6, v2.2)
  else
    some (ki 0, v2.2)
theorem r_X6_couldLevy {X : mm_Cl} (hX : mm_mono X) {d c k : Nat} {Q : mm_Re → Prop} {h : mm_S} {x0 : Nat} {x1 : Int32} {x2 : Int32} {o : (Int32 × mm_S)} (hF : F_X6_couldLevy h x0 x1 x2 = some o) (hQ : Q (.inl (some (.int o.1)), o.2)) : mm_Run X (d + 5) 205 c k [.ref x0, .int x1, .int x2] h Q := by
  unfold F_X6_couldLevy at hF
  refine mm_Run_in (by decide) (by decide) (Nat.le_of_ble_eq_true rfl) ?_
  show mm_Ex (mm_Run X (d + 4)) 205 Q (0, [], [(0, .ref x0), (1, .int x1), (2, .int x2)], h) c k
  refine go_adv hX c_205 3 (F2 := (3, [.int x2, .int x1, .ref x0], [(0, .ref x0), (1, .int x1), (2, .int x2)], h)) rfl ?_
  obtain ⟨_, e1, hF⟩ := mm_bind hF
  obtain ⟨v2, e3, hF⟩ := mm_bind hF
  refine go_cV hX (As := [.int x1, .int x2]) (rv := some (.int v2.1)) (h2 := v2.2) (ci := 6) c_205 rfl (Nat.le_of_ble_eq_true rfl) rfl rfl e1 (by decide) (Nat.le_of_ble_eq_true rfl) (fun Q2 hQ2 => r_X6_isRefusedLevy hX (d := d) e3 hQ2) ?_
  rcases mm_ite hF with ⟨hc4, hF⟩ | ⟨hc4, hF⟩
  · refine go_zt hX 13 c_205 rfl rfl hc4 ?_
    refine go_adv hX c_205 3 (F2 := (16, [.int x2, .int x1, .ref x0], [(0, .ref x0), (1, .int x1), (2, .int x2)], v2.2)) rfl ?_
    obtain ⟨_, e5, hF⟩ := mm_bind hF
    obtain ⟨v6, e7, hF⟩ := mm_bind hF
    refine go_cV hX (As := [.int x1, .int x2]) (rv := some (.int v6)) (h2 := v2.2) (ci := 6) c_205 rfl (Nat.le_of_ble_eq_true rfl) rfl rfl e5 (by decide) (Nat.le_of_ble_eq_true rfl) (fun Q2 hQ2 => r_X6_levyBy hX (d := (d + 2)) e7 hQ2) ?_
    cases hF
    exact go_iret hX c_205 rfl rfl rfl hQ
  · refine go_zf hX c_205 rfl (by decide) hc4 ?_
    refine go_adv hX c_205 1 (F2 := (10, [.int (ki 0)], [(0, .ref x0), (1, .int x1), (2, .int x2)], v2.2)) rfl ?_
    refine go_to hX 19 c_205 rfl rfl ?_
    cases hF
    exact go_iret hX c_205 rfl rfl rfl hQ
theorem c_206 : mm_cd 206 = k_X6_levyOf := rfl
def F_X6_levyOf (h : mm_S) (x0 : Nat) (x1 : Int32) (x2 : Int32) : Option (Int32 × mm_S) :=
  (F_X6_isGiant h x1).bind fun v1 =>
  if v1 = 0 then
    (fx_pV h x0 6 5 (.int (ki 1))).bind fun h4 =>
    (fx_gI h4 x0 6 5).bind fun v6 =>
    if v6 ≤ 0 then
      (fx_is h4 x0 6).bind fun _ =>
      (F_X6_couldLevy h4 x0 x1 x2).bind fun v10 =>
      some (v10.1, v10.2)
    else
      some (ki 0, h4)
  else
    (fx_is h x0 6).bind fun _ =>
    (F_X6_isStair h x0 x2).bind fun v13 =>
    if v13 = 0 then
      (fx_pV h x0 6 5 (.int (ki 1))).bind fun h16 =>
      (fx_gI h16 x0 6 5).bind fun v18 =>
      if v18 ≤ 0 then
        (fx_is h16 x0 6).bind fun _ =>
        (F_X6_couldLevy h16 x0 x1 x2).bind fun v22 =>
        some (v22.1, v22.2)
      else
        some (ki 0, h16)
    else
      (fx_pV h x0 6 5 (.int (ki 0))).bind fun h24 =>
      (fx_gI h24 x0 6 5).bind fun v26 =>
      if v26 ≤ 0 then
        (fx_is h24 x0 6).bind fun _ =>
        (F_X6_couldLevy h24 x0 x1 x2).bind fun v30 =>
        some (v30.1, v30.2)
      else
        some (ki 0, h24)
theorem r_X6_levyOf {X : mm_Cl} (hX : mm_mono X) {d c k : Nat} {Q : mm_Re → Prop} {h : mm_S} {x0 : Nat} {x1 : Int32} {x2 : Int32} {o : (Int32 × mm_S)} (hF : F_X6_levyOf h x0 x1 x2 = some o) (hQ : Q (.inl (some (.int o.1)), o.2)) : mm_Run X (d + 6) 206 c k [.ref x0, .int x1, .int x2] h Q := by
  unfold F_X6_levyOf at hF
  refine mm_Run_in (by decide) (by decide) (Nat.le_of_ble_eq_true rfl) ?_
  show mm_Ex (mm_Run X (d + 5)) 206 Q (0, [], [(0, .ref x0), (1, .int x1), (2, .int x2)], h) c k
  refine go_adv hX c_206 2 (F2 := (2, [.int x1, .ref x0], [(0, .ref x0), (1, .int x1), (2, .int x2)], h)) rfl ?_
  obtain ⟨v1, e2, hF⟩ := mm_bind hF
  refine go_cS hX (As := [.int x1]) (rv := some (.int v1)) (h2 := h) c_206 rfl (by decide) (Nat.le_of_ble_eq_true rfl) rfl rfl (Nat.le_of_ble_eq_true rfl) (fun Q2 hQ2 => r_X6_isGiant hX (d := (d + 3)) e2 hQ2) ?_
  rcases mm_ite hF with ⟨hc3, hF⟩ | ⟨hc3, hF⟩
  · refine go_zt hX 20 c_206 rfl rfl hc3 ?_
    refine go_adv hX c_206 1 (F2 := (21, [.int (ki 1), .ref x0], [(0, .ref x0), (1, .int x1), (2, .int x2)], h)) rfl ?_
    obtain ⟨h4, e5, hF⟩ := mm_bind hF
    refine go_pV hX c_206 rfl e5 ?_
    refine go_adv hX c_206 1 (F2 := (25, [.ref x0], [(0, .ref x0), (1, .int x1), (2, .int x2)], h4)) rfl ?_
    obtain ⟨v6, e7, hF⟩ := mm_bind hF
    refine go_gI hX c_206 rfl e7 ?_
    rcases mm_ite hF with ⟨hc8, hF⟩ | ⟨hc8, hF⟩
    · refine go_zt hX 35 c_206 rfl rfl hc8 ?_
      refine go_adv hX c_206 3 (F2 := (38, [.int x2, .int x1, .ref x0], [(0, .ref x0), (1, .int x1), (2, .int x2)], h4)) rfl ?_
      obtain ⟨_, e9, hF⟩ := mm_bind hF
      obtain ⟨v10, e11, hF⟩ := mm_bind hF
      refine go_cV hX (As := [.int x1, .int x2]) (rv := some (.int v10.1)) (h2 := v10.2) (ci := 6) c_206 rfl (Nat.le_of_ble_eq_true rfl) rfl rfl e9 (by decide) (Nat.le_of_ble_eq_true rfl) (fun Q2 hQ2 => r_X6_couldLevy hX (d := d) e11 hQ2) ?_
      cases hF
      exact go_iret hX c_206 rfl rfl rfl hQ
    · refine go_zf hX c_206 rfl (by decide) hc8 ?_
      refine go_adv hX c_206 1 (F2 := (32, [.int (ki 0)], [(0, .ref x0), (1, .int x1), (2, .int x2)], h4)) rfl ?_
      refine go_to hX 41 c_206 rfl rfl ?_
      cases hF
      exact go_iret hX c_206 rfl rfl rfl hQ
  · refine go_zf hX c_206 rfl (by decide) hc3 ?_
    refine go_adv hX c_206 2 (F2 := (10, [.int x2, .ref x0, .ref x0], [(0, .ref x0), (1, .int x1), (2, .int x2)], h)) rfl ?_
    obtain ⟨_, e12, hF⟩ := mm_bind hF
    obtain ⟨v13, e14, hF⟩ := mm_bind hF
    refine go_cV hX (As := [.int x2]) (rv := some (.int v13)) (h2 := h) (ci := 6) c_206 rfl (Nat.le_of_ble_eq_true rfl) rfl rfl e12 (by decide) (Nat.le_of_ble_eq_true rfl) (fun Q2 hQ2 => r_X6_isStair hX (d := (d + 3)) e14 hQ2) ?_
    rcases mm_ite hF with ⟨hc15, hF⟩ | ⟨hc15, hF⟩
    · refine go_zt hX 20 c_206 rfl rfl hc15 ?_
      refine go_adv hX c_206 1 (F2 := (21, [.int (ki 1), .ref x0], [(0, .ref x0), (1, .int x1), (2, .int x2)], h)) rfl ?_
      obtain ⟨h16, e17, hF⟩ := mm_bind hF
      refine go_pV hX c_206 rfl e17 ?_
      refine go_adv hX c_206 1 (F2 := (25, [.ref x0], [(0, .ref x0), (1, .int x1), (2, .int x2)], h16)) rfl ?_
      obtain ⟨v18, e19, hF⟩ := mm_bind hF
      refine go_gI hX c_206 rfl e19 ?_
      rcases mm_ite hF with ⟨hc20, hF⟩ | ⟨hc20, hF⟩
      · refine go_zt hX 35 c_206 rfl rfl hc20 ?_
        refine go_adv hX c_206 3 (F2 := (38, [.int x2, .int x1, .ref x0], [(0, .ref x0), (1, .int x1), (2, .int x2)], h16)) rfl ?_
        obtain ⟨_, e21, hF⟩ := mm_bind hF
        obtain ⟨v22, e23, hF⟩ := mm_bind hF
        refine go_cV hX (As := [.int x1, .int x2]) (rv := some (.int v22.1)) (h2 := v22.2) (ci := 6) c_206 rfl (Nat.le_of_ble_eq_true rfl) rfl rfl e21 (by decide) (Nat.le_of_ble_eq_true rfl) (fun Q2 hQ2 => r_X6_couldLevy hX (d := d) e23 hQ2) ?_
        cases hF
        exact go_iret hX c_206 rfl rfl rfl hQ
      · refine go_zf hX c_206 rfl (by decide) hc20 ?_
        refine go_adv hX c_206 1 (F2 := (32, [.int (ki 0)], [(0, .ref x0), (1, .int x1), (2, .int x2)], h16)) rfl ?_
        refine go_to hX 41 c_206 rfl rfl ?_
        cases hF
        exact go_iret hX c_206 rfl rfl rfl hQ
    · refine go_zf hX c_206 rfl (by decide) hc15 ?_
      refine go_adv hX c_206 1 (F2 := (17, [.int (ki 0), .ref x0], [(0, .ref x0), (1, .int x1), (2, .int x2)], h)) rfl ?_
      refine go_to hX 21 c_206 rfl rfl ?_
      obtain ⟨h24, e25, hF⟩ := mm_bind hF
      refine go_pV hX c_206 rfl e25 ?_
      refine go_adv hX c_206 1 (F2 := (25, [.ref x0], [(0, .ref x0), (1, .int x1), (2, .int x2)], h24)) rfl ?_
      obtain ⟨v26, e27, hF⟩ := mm_bind hF
      refine go_gI hX c_206 rfl e27 ?_
      rcases mm_ite hF with ⟨hc28, hF⟩ | ⟨hc28, hF⟩
      · refine go_zt hX 35 c_206 rfl rfl hc28 ?_
        refine go_adv hX c_206 3 (F2 := (38, [.int x2, .int x1, .ref x0], [(0, .ref x0), (1, .int x1), (2, .int x2)], h24)) rfl ?_
        obtain ⟨_, e29, hF⟩ := mm_bind hF
        obtain ⟨v30, e31, hF⟩ := mm_bind hF
        refine go_cV hX (As := [.int x1, .int x2]) (rv := some (.int v30.1)) (h2 := v30.2) (ci := 6) c_206 rfl (Nat.le_of_ble_eq_true rfl) rfl rfl e29 (by decide) (Nat.le_of_ble_eq_true rfl) (fun Q2 hQ2 => r_X6_couldLevy hX (d := d) e31 hQ2) ?_
        cases hF
        exact go_iret hX c_206 rfl rfl rfl hQ
      · refine go_zf hX c_206 rfl (by decide) hc28 ?_
        refine go_adv hX c_206 1 (F2 := (32, [.int (ki 0)], [(0, .ref x0), (1, .int x1), (2, .int x2)], h24)) rfl ?_
        refine go_to hX 41 c_206 rfl rfl ?_
        cases hF
        exact go_iret hX c_206 rfl rfl rfl hQ
theorem c_207 : mm_cd 207 = k_X6_bestLevy := rfl
def F_X6_bestLevy_L32 : Nat → Nat → Int32 → Int32 → Int32 → Int32 → mm_S → Option (Int32 × mm_S)
  | 0, _, _, _, _, _, _ => none
  | n + 1, x0, x1, x2, x3, x4, h =>
    (fx_gR h x0 6 0).bind fun v9 =>
    (fx_aI h v9 (ki 0)).bind fun v11 =>
    if v11 ≤ x4 then
      some ((x2, h))
    else
      (fx_is h x0 6).bind fun _ =>
      (F_X6_couldLevy h x0 x1 x4).bind fun v15 =>
      if x3 < v15.1 then
        (fx_is v15.2 x0 6).bind fun _ =>
        (F_X6_couldLevy v15.2 x0 x1 x4).bind fun v19 =>
        F_X6_bestLevy_L32 n x0 x1 x4 v19.1 (x4 + ki 1) v19.2
      else
        F_X6_bestLevy_L32 n x0 x1 x2 x3 (x4 + ki 1) v15.2
def F_X6_bestLevy_B13 (h : mm_S) (s0 : Int32) (s1 : Nat) (x0 : Nat) (x1 : Int32) : Option (Int32 × mm_S) :=
  (fx_pV h s1 6 5 (.int s0)).bind fun h4 =>
  (fx_gI h4 x0 6 5).bind fun v6 =>
  if v6 ≤ 0 then
    (F_X6_bestLevy_L32 1000 x0 x1 (ki (-1)) (ki 0) (ki 0) h4).bind fun o21 =>
    if 0 ≤ o21.1 then
      some (o21.1, o21.2)
    else
      (fx_is o21.2 x0 6).bind fun _ =>
      (F_X6_no o21.2 x0 (ki 2)).bind fun v25 =>
      some (v25.1, v25.2)
  else
    some (ki 0, h4)
def F_X6_bestLevy (h : mm_S) (x0 : Nat) (x1 : Int32) : Option (Int32 × mm_S) :=
  (F_X6_isGiant h x1).bind fun v1 =>
  if v1 = 0 then
    F_X6_bestLevy_B13 h (ki 1) x0 x0 x1
  else
    F_X6_bestLevy_B13 h (ki 0) x0 x0 x1
theorem r_X6_bestLevy_L32 {X : mm_Cl} (hX : mm_mono X) {d c k : Nat} {Q : mm_Re → Prop} : ∀ (n : Nat) (x0 : Nat) (x1 : Int32) (x2 : Int32) (x3 : Int32) (x4 : Int32) (h : mm_S) (o : (Int32 × mm_S)), F_X6_bestLevy_L32 n x0 x1 x2 x3 x4 h = some o → (mm_Ex (mm_Run X (d + 5)) 207 Q (74, [], [(0, .ref x0), (2, .int o.1)], o.2) c k) → mm_Ex (mm_Run X (d + 5)) 207 Q (32, [], [(0, .ref x0), (1, .int x1), (2, .int x2), (3, .int x3), (4, .int x4)], h) c k := by
  intro n
  induction n with
  | zero => intro x0 x1 x2 x3 x4 h o hF; cases hF
  | succ n ih =>
    intro x0 x1 x2 x3 x4 h o hF hE
    unfold F_X6_bestLevy_L32 at hF
    refine go_adv hX c_207 2 (F2 := (35, [.ref x0, .int x4], [(0, .ref x0), (1, .int x1), (2, .int x2), (3, .int x3), (4, .int x4)], h)) rfl ?_
    obtain ⟨v9, e10, hF⟩ := mm_bind hF
    refine go_gR hX c_207 rfl e10 ?_
    refine go_adv hX c_207 1 (F2 := (39, [.int (ki 0), .ref v9, .int x4], [(0, .ref x0), (1, .int x1), (2, .int x2), (3, .int x3), (4, .int x4)], h)) rfl ?_
    obtain ⟨v11, e12, hF⟩ := mm_bind hF
    refine go_aI hX c_207 rfl e12 ?_
    rcases mm_ite hF with ⟨hc13, hF⟩ | ⟨hc13, hF⟩
    · refine go_ct hX 74 c_207 rfl rfl hc13 ?_
      cases hF
      refine go_ls [(0, .ref x0), (2, .int x2)] ⟨rfl, ⟨rfl, trivial⟩⟩ ?_
      exact hE
    · refine go_cf hX c_207 rfl (by decide) hc13 ?_
      refine go_adv hX c_207 3 (F2 := (47, [.int x4, .int x1, .ref x0], [(0, .ref x0), (1, .int x1), (2, .int x2), (3, .int x3), (4, .int x4)], h)) rfl ?_
      obtain ⟨_, e14, hF⟩ := mm_bind hF
      obtain ⟨v15, e16, hF⟩ := mm_bind hF
      refine go_cV hX (As := [.int x1, .int x4]) (rv := some (.int v15.1)) (h2 := v15.2) (ci := 6) c_207 rfl (Nat.le_of_ble_eq_true rfl) rfl rfl e14 (by decide) (Nat.le_of_ble_eq_true rfl) (fun Q2 hQ2 => r_X6_couldLevy hX (d := d) e16 hQ2) ?_
      refine go_adv hX c_207 1 (F2 := (51, [.int x3, .int v15.1], [(0, .ref x0), (1, .int x1), (2, .int x2), (3, .int x3), (4, .int x4)], v15.2)) rfl ?_
      rcases mm_ite hF with ⟨hc17, hF⟩ | ⟨hc17, hF⟩
      · refine go_ct hX 57 c_207 rfl rfl hc17 ?_
        refine go_adv hX c_207 5 (F2 := (64, [.int x4, .int x1, .ref x0], [(2, .int x4), (0, .ref x0), (1, .int x1), (3, .int x3), (4, .int x4)], v15.2)) rfl ?_
        obtain ⟨_, e18, hF⟩ := mm_bind hF
        obtain ⟨v19, e20, hF⟩ := mm_bind hF
        refine go_cV hX (As := [.int x1, .int x4]) (rv := some (.int v19.1)) (h2 := v19.2) (ci := 6) c_207 rfl (Nat.le_of_ble_eq_true rfl) rfl rfl e18 (by decide) (Nat.le_of_ble_eq_true rfl) (fun Q2 hQ2 => r_X6_couldLevy hX (d := d) e20 hQ2) ?_
        refine go_adv hX c_207 2 (F2 := (71, [], [(4, .int (x4 + ki 1)), (3, .int v19.1), (2, .int x4), (0, .ref x0), (1, .int x1)], v19.2)) rfl ?_
        refine go_to hX 32 c_207 rfl rfl ?_
        refine go_ls [(0, .ref x0), (1, .int x1), (2, .int x4), (3, .int v19.1), (4, .int (x4 + ki 1))] ⟨rfl, ⟨rfl, ⟨rfl, ⟨rfl, ⟨rfl, trivial⟩⟩⟩⟩⟩ ?_
        exact ih x0 x1 x4 v19.1 (x4 + ki 1) v19.2 _ hF hE
      · refine go_cf hX c_207 rfl (by decide) hc17 ?_
        refine go_to hX 68 c_207 rfl rfl ?_
        refine go_adv hX c_207 1 (F2 := (71, [], [(4, .int (x4 + ki 1)), (0, .ref x0), (1, .int x1), (2, .int x2), (3, .int x3)], v15.2)) rfl ?_
        refine go_to hX 32 c_207 rfl rfl ?_
        refine go_ls [(0, .ref x0), (1, .int x1), (2, .int x2), (3, .int x3), (4, .int (x4 + ki 1))] ⟨rfl, ⟨rfl, ⟨rfl, ⟨rfl, ⟨rfl, trivial⟩⟩⟩⟩⟩ ?_
        exact ih x0 x1 x2 x3 (x4 + ki 1) v15.2 _ hF hE
theorem r_X6_bestLevy_B13 {X : mm_Cl} (hX : mm_mono X) {d c k : Nat} {Q : mm_Re → Prop} {h : mm_S} {s0 : Int32} {s1 : Nat} {x0 : Nat} {x1 : Int32} {o : (Int32 × mm_S)} (hF : F_X6_bestLevy_B13 h s0 s1 x0 x1 = some o) (hQ : Q (.inl (some (.int o.1)), o.2)) : mm_Ex (mm_Run X (d + 5)) 207 Q (13, [.int s0, .ref s1], [(0, .ref x0), (1, .int x1)], h) c k := by
  unfold F_X6_bestLevy_B13 at hF
  obtain ⟨h4, e5, hF⟩ := mm_bind hF
  refine go_pV hX c_207 rfl e5 ?_
  refine go_adv hX c_207 1 (F2 := (17, [.ref x0], [(0, .ref x0), (1, .int x1)], h4)) rfl ?_
  obtain ⟨v6, e7, hF⟩ := mm_bind hF
  refine go_gI hX c_207 rfl e7 ?_
  rcases mm_ite hF with ⟨hc8, hF⟩ | ⟨hc8, hF⟩
  · refine go_zt hX 25 c_207 rfl rfl hc8 ?_
    refine go_adv hX c_207 6 (F2 := (32, [], [(4, .int (ki 0)), (3, .int (ki 0)), (2, .int (ki (-1))), (0, .ref x0), (1, .int x1)], h4)) rfl ?_
    refine go_ls [(0, .ref x0), (1, .int x1), (2, .int (ki (-1))), (3, .int (ki 0)), (4, .int (ki 0))] ⟨rfl, ⟨rfl, ⟨rfl, ⟨rfl, ⟨rfl, trivial⟩⟩⟩⟩⟩ ?_
    obtain ⟨o21, e22, hF⟩ := mm_bind hF
    refine r_X6_bestLevy_L32 hX 1000 x0 x1 (ki (-1)) (ki 0) (ki 0) h4 o21 e22 ?_
    refine go_adv hX c_207 1 (F2 := (75, [.int o21.1], [(0, .ref x0), (2, .int o21.1)], o21.2)) rfl ?_
    rcases mm_ite hF with ⟨hc23, hF⟩ | ⟨hc23, hF⟩
    · refine go_zt hX 86 c_207 rfl rfl hc23 ?_
      refine go_adv hX c_207 1 (F2 := (87, [.int o21.1], [(0, .ref x0), (2, .int o21.1)], o21.2)) rfl ?_
      cases hF
      exact go_iret hX c_207 rfl rfl rfl hQ
    · refine go_zf hX c_207 rfl (by decide) hc23 ?_
      refine go_adv hX c_207 2 (F2 := (80, [.int (ki 2), .ref x0], [(0, .ref x0), (2, .int o21.1)], o21.2)) rfl ?_
      obtain ⟨_, e24, hF⟩ := mm_bind hF
      obtain ⟨v25, e26, hF⟩ := mm_bind hF
      refine go_cV hX (As := [.int (ki 2)]) (rv := some (.int v25.1)) (h2 := v25.2) (ci := 6) c_207 rfl (Nat.le_of_ble_eq_true rfl) rfl rfl e24 (by decide) (Nat.le_of_ble_eq_true rfl) (fun Q2 hQ2 => r_X6_no hX (d := (d + 4)) e26 hQ2) ?_
      refine go_to hX 87 c_207 rfl rfl ?_
      cases hF
      exact go_iret hX c_207 rfl rfl rfl hQ
  · refine go_zf hX c_207 rfl (by decide) hc8 ?_
    refine go_adv hX c_207 1 (F2 := (24, [.int (ki 0)], [(0, .ref x0), (1, .int x1)], h4)) rfl ?_
    cases hF
    exact go_iret hX c_207 rfl rfl rfl hQ
theorem r_X6_bestLevy {X : mm_Cl} (hX : mm_mono X) {d c k : Nat} {Q : mm_Re → Prop} {h : mm_S} {x0 : Nat} {x1 : Int32} {o : (Int32 × mm_S)} (hF : F_X6_bestLevy h x0 x1 = some o) (hQ : Q (.inl (some (.int o.1)), o.2)) : mm_Run X (d + 6) 207 c k [.ref x0, .int x1] h Q := by
  unfold F_X6_bestLevy at hF
  refine mm_Run_in (by decide) (by decide) (Nat.le_of_ble_eq_true rfl) ?_
  show mm_Ex (mm_Run X (d + 5)) 207 Q (0, [], [(0, .ref x0), (1, .int x1)], h) c k
  refine go_adv hX c_207 2 (F2 := (2, [.int x1, .ref x0], [(0, .ref x0), (1, .int x1)], h)) rfl ?_
  obtain ⟨v1, e2, hF⟩ := mm_bind hF
  refine go_cS hX (As := [.int x1]) (rv := some (.int v1)) (h2 := h) c_207 rfl (by decide) (Nat.le_of_ble_eq_true rfl) rfl rfl (Nat.le_of_ble_eq_true rfl) (fun Q2 hQ2 => r_X6_isGiant hX (d := (d + 3)) e2 hQ2) ?_
  rcases mm_ite hF with ⟨hc3, hF⟩ | ⟨hc3, hF⟩
  · refine go_zt hX 12 c_207 rfl rfl hc3 ?_
    refine go_adv hX c_207 1 (F2 := (13, [.int (ki 1), .ref x0], [(0, .ref x0), (1, .int x1)], h)) rfl ?_
    refine go_ls [(0, .ref x0), (1, .int x1)] ⟨rfl, ⟨rfl, trivial⟩⟩ ?_
    exact r_X6_bestLevy_B13 hX hF hQ
  · refine go_zf hX c_207 rfl (by decide) hc3 ?_
    refine go_adv hX c_207 1 (F2 := (9, [.int (ki 0), .ref x0], [(0, .ref x0), (1, .int x1)], h)) rfl ?_
    refine go_to hX 13 c_207 rfl rfl ?_
    refine go_ls [(0, .ref x0), (1, .int x1)] ⟨rfl, ⟨rfl, trivial⟩⟩ ?_
    exact r_X6_bestLevy_B13 hX hF hQ
theorem c_208 : mm_cd 208 = k_X6_canTake := rfl
def F_X6_canTake (h : mm_S) (x0 : Nat) (x1 : Int32) : Option (Int32 × mm_S) :=
  (F_X6_isLanding h x1).bind fun v1 =>
  if v1 = 0 then
    (fx_pV h x0 6 5 (.int (ki 1))).bind fun h4 =>
    (fx_gI h4 x0 6 5).bind fun v6 =>
    if v6 ≠ 0 then
      some (ki 0, h4)
    else
      (fx_is h4 x0 6).bind fun _ =>
      (F_X6_isRefusedTake h4 x0 x1).bind fun v10 =>
      if v10.1 ≠ 0 then
        some (ki 0, v10.2)
      else
        some (ki 1, v10.2)
  else
    (fx_pV h x0 6 5 (.int (ki 0))).bind fun h13 =>
    (fx_gI h13 x0 6 5).bind fun v15 =>
    if v15 ≠ 0 then
      some (ki 0, h13)
    else
      (fx_is h13 x0 6).bind fun _ =>
      (F_X6_isRefusedTake h13 x0 x1).bind fun v19 =>
      if v19.1 ≠ 0 then
        some (ki 0, v19.2)
      else
        some (ki 1, v19.2)
theorem r_X6_canTake {X : mm_Cl} (hX : mm_mono X) {d c k : Nat} {Q : mm_Re → Prop} {h : mm_S} {x0 : Nat} {x1 : Int32} {o : (Int32 × mm_S)} (hF : F_X6_canTake h x0 x1 = some o) (hQ : Q (.inl (some (.int o.1)), o.2)) : mm_Run X (d + 5) 208 c k [.ref x0, .int x1] h Q := by
  unfold F_X6_canTake at hF
  refine mm_Run_in (by decide) (by decide) (Nat.le_of_ble_eq_true rfl) ?_
  show mm_Ex (mm_Run X (d + 4)) 208 Q (0, [], [(0, .ref x0), (1, .int x1)], h) c k
  refine go_adv hX c_208 2 (F2 := (2, [.int x1, .ref x0], [(0, .ref x0), (1, .int x1)], h)) rfl ?_
  obtain ⟨v1, e2, hF⟩ := mm_bind hF
  refine go_cS hX (As := [.int x1]) (rv := some (.int v1)) (h2 := h) c_208 rfl (by decide) (Nat.le_of_ble_eq_true rfl) rfl rfl (Nat.le_of_ble_eq_true rfl) (fun Q2 hQ2 => r_X6_isLanding hX (d := (d + 2)) e2 hQ2) ?_
  rcases mm_ite hF with ⟨hc3, hF⟩ | ⟨hc3, hF⟩
  · refine go_zt hX 12 c_208 rfl rfl hc3 ?_
    refine go_adv hX c_208 1 (F2 := (13, [.int (ki 1), .ref x0], [(0, .ref x0), (1, .int x1)], h)) rfl ?_
    obtain ⟨h4, e5, hF⟩ := mm_bind hF
    refine go_pV hX c_208 rfl e5 ?_
    refine go_adv hX c_208 1 (F2 := (17, [.ref x0], [(0, .ref x0), (1, .int x1)], h4)) rfl ?_
    obtain ⟨v6, e7, hF⟩ := mm_bind hF
    refine go_gI hX c_208 rfl e7 ?_
    rcases mm_ite hF with ⟨hc8, hF⟩ | ⟨hc8, hF⟩
    · refine go_zt hX 35 c_208 rfl rfl hc8 ?_
      refine go_adv hX c_208 1 (F2 := (36, [.int (ki 0)], [(0, .ref x0), (1, .int x1)], h4)) rfl ?_
      cases hF
      exact go_iret hX c_208 rfl rfl (by decide) hQ
    · refine go_zf hX c_208 rfl (by decide) hc8 ?_
      refine go_adv hX c_208 2 (F2 := (25, [.int x1, .ref x0], [(0, .ref x0), (1, .int x1)], h4)) rfl ?_
      obtain ⟨_, e9, hF⟩ := mm_bind hF
      obtain ⟨v10, e11, hF⟩ := mm_bind hF
      refine go_cV hX (As := [.int x1]) (rv := some (.int v10.1)) (h2 := v10.2) (ci := 6) c_208 rfl (Nat.le_of_ble_eq_true rfl) rfl rfl e9 (by decide) (Nat.le_of_ble_eq_true rfl) (fun Q2 hQ2 => r_X6_isRefusedTake hX (d := d) e11 hQ2) ?_
      rcases mm_ite hF with ⟨hc12, hF⟩ | ⟨hc12, hF⟩
      · refine go_zt hX 35 c_208 rfl rfl hc12 ?_
        refine go_adv hX c_208 1 (F2 := (36, [.int (ki 0)], [(0, .ref x0), (1, .int x1)], v10.2)) rfl ?_
        cases hF
        exact go_iret hX c_208 rfl rfl (by decide) hQ
      · refine go_zf hX c_208 rfl (by decide) hc12 ?_
        refine go_adv hX c_208 1 (F2 := (32, [.int (ki 1)], [(0, .ref x0), (1, .int x1)], v10.2)) rfl ?_
        refine go_to hX 36 c_208 rfl rfl ?_
        cases hF
        exact go_iret hX c_208 rfl rfl (by decide) hQ
  · refine go_zf hX c_208 rfl (by decide) hc3 ?_
    refine go_adv hX c_208 1 (F2 := (9, [.int (ki 0), .ref x0], [(0, .ref x0), (1, .int x1)], h)) rfl ?_
    refine go_to hX 13 c_208 rfl rfl ?_
    obtain ⟨h13, e14, hF⟩ := mm_bind hF
    refine go_pV hX c_208 rfl e14 ?_
    refine go_adv hX c_208 1 (F2 := (17, [.ref x0], [(0, .ref x0), (1, .int x1)], h13)) rfl ?_
    obtain ⟨v15, e16, hF⟩ := mm_bind hF
    refine go_gI hX c_208 rfl e16 ?_
    rcases mm_ite hF with ⟨hc17, hF⟩ | ⟨hc17, hF⟩
    · refine go_zt hX 35 c_208 rfl rfl hc17 ?_
      refine go_adv hX c_208 1 (F2 := (36, [.int (ki 0)], [(0, .ref x0), (1, .int x1)], h13)) rfl ?_
      cases hF
      exact go_iret hX c_208 rfl rfl (by decide) hQ
    · refine go_zf hX c_208 rfl (by decide) hc17 ?_
      refine go_adv hX c_208 2 (F2 := (25, [.int x1, .ref x0], [(0, .ref x0), (1, .int x1)], h13)) rfl ?_
      obtain ⟨_, e18, hF⟩ := mm_bind hF
      obtain ⟨v19, e20, hF⟩ := mm_bind hF
      refine go_cV hX (As := [.int x1]) (rv := some (.int v19.1)) (h2 := v19.2) (ci := 6) c_208 rfl (Nat.le_of_ble_eq_true rfl) rfl rfl e18 (by decide) (Nat.le_of_ble_eq_true rfl) (fun Q2 hQ2 => r_X6_isRefusedTake hX (d := d) e20 hQ2) ?_
      rcases mm_ite hF with ⟨hc21, hF⟩ | ⟨hc21, hF⟩
      · refine go_zt hX 35 c_208 rfl rfl hc21 ?_
        refine go_adv hX c_208 1 (F2 := (36, [.int (ki 0)], [(0, .ref x0), (1, .int x1)], v19.2)) rfl ?_
        cases hF
        exact go_iret hX c_208 rfl rfl (by decide) hQ
      · refine go_zf hX c_208 rfl (by decide) hc21 ?_
        refine go_adv hX c_208 1 (F2 := (32, [.int (ki 1)], [(0, .ref x0), (1, .int x1)], v19.2)) rfl ?_
        refine go_to hX 36 c_208 rfl rfl ?_
        cases hF
        exact go_iret hX c_208 rfl rfl (by decide) hQ
theorem c_209 : mm_cd 209 = k_X6_takable := rfl
def F_X6_takable_L9 : Nat → Nat → Int32 → Int32 → mm_S → Option (Int32 × mm_S)
  | 0, _, _, _, _ => none
  | n + 1, x0, x1, x2, h =>
    if (kb 8) ≤ x2 then
      some ((x1, h))
    else
      (fx_is h x0 6).bind fun _ =>
      (F_X6_isRefusedTake h x0 x2).bind fun v5 =>
      if v5.1 = 0 then
        F_X6_takable_L9 n x0 (x1 ||| ((ki 1) <<< (x2 &&& 31))) (x2 + ki 1) v5.2
      else
        F_X6_takable_L9 n x0 (x1 ||| (ki 0)) (x2 + ki 1) v5.2
def F_X6_takable (h : mm_S) (x0 : Nat) : Option (Int32 × mm_S) :=
  (fx_pV h x0 6 5 (.int (ki 0))).bind fun h1 =>
  (F_X6_takable_L9 1000 x0 (ki 0) (ki 0) h1).bind fun o8 =>
  some (o8.1, o8.2)
theorem r_X6_takable_L9 {X : mm_Cl} (hX : mm_mono X) {d c k : Nat} {Q : mm_Re → Prop} : ∀ (n : Nat) (x0 : Nat) (x1 : Int32) (x2 : Int32) (h : mm_S) (o : (Int32 × mm_S)), F_X6_takable_L9 n x0 x1 x2 h = some o → (mm_Ex (mm_Run X (d + 4)) 209 Q (39, [], [(1, .int o.1)], o.2) c k) → mm_Ex (mm_Run X (d + 4)) 209 Q (9, [], [(0, .ref x0), (1, .int x1), (2, .int x2)], h) c k := by
  intro n
  induction n with
  | zero => intro x0 x1 x2 h o hF; cases hF
  | succ n ih =>
    intro x0 x1 x2 h o hF hE
    unfold F_X6_takable_L9 at hF
    refine go_adv hX c_209 2 (F2 := (12, [.int (kb 8), .int x2], [(0, .ref x0), (1, .int x1), (2, .int x2)], h)) rfl ?_
    rcases mm_ite hF with ⟨hc3, hF⟩ | ⟨hc3, hF⟩
    · refine go_ct hX 39 c_209 rfl rfl hc3 ?_
      cases hF
      refine go_ls [(1, .int x1)] ⟨rfl, trivial⟩ ?_
      exact hE
    · refine go_cf hX c_209 rfl (by decide) hc3 ?_
      refine go_adv hX c_209 3 (F2 := (18, [.int x2, .ref x0, .int x1], [(0, .ref x0), (1, .int x1), (2, .int x2)], h)) rfl ?_
      obtain ⟨_, e4, hF⟩ := mm_bind hF
      obtain ⟨v5, e6, hF⟩ := mm_bind hF
      refine go_cV hX (As := [.int x2]) (rv := some (.int v5.1)) (h2 := v5.2) (ci := 6) c_209 rfl (Nat.le_of_ble_eq_true rfl) rfl rfl e4 (by decide) (Nat.le_of_ble_eq_true rfl) (fun Q2 hQ2 => r_X6_isRefusedTake hX (d := d) e6 hQ2) ?_
      rcases mm_ite hF with ⟨hc7, hF⟩ | ⟨hc7, hF⟩
      · refine go_zt hX 28 c_209 rfl rfl hc7 ?_
        refine go_adv hX c_209 6 (F2 := (36, [], [(2, .int (x2 + ki 1)), (1, .int (x1 ||| ((ki 1) <<< (x2 &&& 31)))), (0, .ref x0)], v5.2)) rfl ?_
        refine go_to hX 9 c_209 rfl rfl ?_
        refine go_ls [(0, .ref x0), (1, .int (x1 ||| ((ki 1) <<< (x2 &&& 31)))), (2, .int (x2 + ki 1))] ⟨rfl, ⟨rfl, ⟨rfl, trivial⟩⟩⟩ ?_
        exact ih x0 (x1 ||| ((ki 1) <<< (x2 &&& 31))) (x2 + ki 1) v5.2 _ hF hE
      · refine go_zf hX c_209 rfl (by decide) hc7 ?_
        refine go_adv hX c_209 1 (F2 := (25, [.int (ki 0), .int x1], [(0, .ref x0), (1, .int x1), (2, .int x2)], v5.2)) rfl ?_
        refine go_to hX 31 c_209 rfl rfl ?_
        refine go_adv hX c_209 3 (F2 := (36, [], [(2, .int (x2 + ki 1)), (1, .int (x1 ||| (ki 0))), (0, .ref x0)], v5.2)) rfl ?_
        refine go_to hX 9 c_209 rfl rfl ?_
        refine go_ls [(0, .ref x0), (1, .int (x1 ||| (ki 0))), (2, .int (x2 + ki 1))] ⟨rfl, ⟨rfl, ⟨rfl, trivial⟩⟩⟩ ?_
        exact ih x0 (x1 ||| (ki 0)) (x2 + ki 1) v5.2 _ hF hE
theorem r_X6_takable {X : mm_Cl} (hX : mm_mono X) {d c k : Nat} {Q : mm_Re → Prop} {h : mm_S} {x0 : Nat} {o : (Int32 × mm_S)} (hF : F_X6_takable h x0 = some o) (hQ : Q (.inl (some (.int o.1)), o.2)) : mm_Run X (d + 5) 209 c k [.ref x0] h Q := by
  unfold F_X6_takable at hF
  refine mm_Run_in (by decide) (by decide) (Nat.le_of_ble_eq_true rfl) ?_
  show mm_Ex (mm_Run X (d + 4)) 209 Q (0, [], [(0, .ref x0)], h) c k
  refine go_adv hX c_209 2 (F2 := (2, [.int (ki 0), .ref x0], [(0, .ref x0)], h)) rfl ?_
  obtain ⟨h1, e2, hF⟩ := mm_bind hF
  refine go_pV hX c_209 rfl e2 ?_
  refine go_adv hX c_209 4 (F2 := (9, [], [(2, .int (ki 0)), (1, .int (ki 0)), (0, .ref x0)], h1)) rfl ?_
  refine go_ls [(0, .ref x0), (1, .int (ki 0)), (2, .int (ki 0))] ⟨rfl, ⟨rfl, ⟨rfl, trivial⟩⟩⟩ ?_
  obtain ⟨o8, e9, hF⟩ := mm_bind hF
  refine r_X6_takable_L9 hX 1000 x0 (ki 0) (ki 0) h1 o8 e9 ?_
  refine go_adv hX c_209 1 (F2 := (40, [.int o8.1], [(1, .int o8.1)], o8.2)) rfl ?_
  cases hF
  exact go_iret hX c_209 rfl rfl rfl hQ
theorem c_210 : mm_cd 210 = k_X6_turn := rfl
def F_X6_turn (h : mm_S) (x0 : Nat) : Option (Int32 × mm_S) :=
  (fx_pV h x0 6 5 (.int (ki 0))).bind fun h1 =>
  (fx_gR h1 x0 6 0).bind fun v3 =>
  (fx_aI h1 v3 (ki 3)).bind fun v5 =>
  some (v5, h1)
theorem r_X6_turn {X : mm_Cl} (hX : mm_mono X) {d c k : Nat} {Q : mm_Re → Prop} {h : mm_S} {x0 : Nat} {o : (Int32 × mm_S)} (hF : F_X6_turn h x0 = some o) (hQ : Q (.inl (some (.int o.1)), o.2)) : mm_Run X (d + 1) 210 c k [.ref x0] h Q := by
  unfold F_X6_turn at hF
  refine mm_Run_in (by decide) (by decide) (Nat.le_of_ble_eq_true rfl) ?_
  show mm_Ex (mm_Run X d) 210 Q (0, [], [(0, .ref x0)], h) c k
  refine go_adv hX c_210 2 (F2 := (2, [.int (ki 0), .ref x0], [(0, .ref x0)], h)) rfl ?_
  obtain ⟨h1, e2, hF⟩ := mm_bind hF
  refine go_pV hX c_210 rfl e2 ?_
  refine go_adv hX c_210 1 (F2 := (6, [.ref x0], [(0, .ref x0)], h1)) rfl ?_
  obtain ⟨v3, e4, hF⟩ := mm_bind hF
  refine go_gR hX c_210 rfl e4 ?_
  refine go_adv hX c_210 1 (F2 := (10, [.int (ki 3), .ref v3], [(0, .ref x0)], h1)) rfl ?_
  obtain ⟨v5, e6, hF⟩ := mm_bind hF
  refine go_aI hX c_210 rfl e6 ?_
  cases hF
  exact go_iret hX c_210 rfl rfl rfl hQ
theorem c_211 : mm_cd 211 = k_X6_measured := rfl
def F_X6_measured (h : mm_S) (x0 : Nat) (x1 : Int32) (x2 : Int32) : Option Int32 :=
  if x2 ≠ 0 then
    if x2 ≠ (ki 1) then
      if x2 ≠ (ki 2) then
        (fx_is h x0 6).bind fun _ =>
        (F_X6_rentOf h x0 x1).bind fun v5 =>
        some v5
      else
        (fx_is h x0 6).bind fun _ =>
        (F_X6_sv h x0 x1 (kb 6)).bind fun v8 =>
        some v8
    else
      (fx_is h x0 6).bind fun _ =>
      (F_X6_sv h x0 x1 (ki 3)).bind fun v11 =>
      some v11
  else
    (fx_is h x0 6).bind fun _ =>
    (F_X6_sv h x0 x1 (ki 2)).bind fun v14 =>
    some v14
theorem r_X6_measured {X : mm_Cl} (hX : mm_mono X) {d c k : Nat} {Q : mm_Re → Prop} {h : mm_S} {x0 : Nat} {x1 : Int32} {x2 : Int32} {o : Int32} (hF : F_X6_measured h x0 x1 x2 = some o) (hQ : Q (.inl (some (.int o)), h)) : mm_Run X (d + 3) 211 c k [.ref x0, .int x1, .int x2] h Q := by
  unfold F_X6_measured at hF
  refine mm_Run_in (by decide) (by decide) (Nat.le_of_ble_eq_true rfl) ?_
  show mm_Ex (mm_Run X (d + 2)) 211 Q (0, [], [(0, .ref x0), (1, .int x1), (2, .int x2)], h) c k
  refine go_adv hX c_211 1 (F2 := (1, [.int x2], [(0, .ref x0), (1, .int x1), (2, .int x2)], h)) rfl ?_
  rcases mm_ite hF with ⟨hc1, hF⟩ | ⟨hc1, hF⟩
  · refine go_zt hX 13 c_211 rfl rfl hc1 ?_
    refine go_adv hX c_211 2 (F2 := (15, [.int (ki 1), .int x2], [(0, .ref x0), (1, .int x1), (2, .int x2)], h)) rfl ?_
    rcases mm_ite hF with ⟨hc2, hF⟩ | ⟨hc2, hF⟩
    · refine go_ct hX 27 c_211 rfl rfl hc2 ?_
      refine go_adv hX c_211 2 (F2 := (29, [.int (ki 2), .int x2], [(0, .ref x0), (1, .int x1), (2, .int x2)], h)) rfl ?_
      rcases mm_ite hF with ⟨hc3, hF⟩ | ⟨hc3, hF⟩
      · refine go_ct hX 42 c_211 rfl rfl hc3 ?_
        refine go_adv hX c_211 2 (F2 := (44, [.int x1, .ref x0], [(0, .ref x0), (1, .int x1), (2, .int x2)], h)) rfl ?_
        obtain ⟨_, e4, hF⟩ := mm_bind hF
        obtain ⟨v5, e6, hF⟩ := mm_bind hF
        refine go_cV hX (As := [.int x1]) (rv := some (.int v5)) (h2 := h) (ci := 6) c_211 rfl (Nat.le_of_ble_eq_true rfl) rfl rfl e4 (by decide) (Nat.le_of_ble_eq_true rfl) (fun Q2 hQ2 => r_X6_rentOf hX (d := d) e6 hQ2) ?_
        cases hF
        exact go_iret hX c_211 rfl rfl rfl hQ
      · refine go_cf hX c_211 rfl (by decide) hc3 ?_
        refine go_adv hX c_211 3 (F2 := (36, [.int (kb 6), .int x1, .ref x0], [(0, .ref x0), (1, .int x1), (2, .int x2)], h)) rfl ?_
        obtain ⟨_, e7, hF⟩ := mm_bind hF
        obtain ⟨v8, e9, hF⟩ := mm_bind hF
        refine go_cV hX (As := [.int x1, .int (kb 6)]) (rv := some (.int v8)) (h2 := h) (ci := 6) c_211 rfl (Nat.le_of_ble_eq_true rfl) rfl rfl e7 (by decide) (Nat.le_of_ble_eq_true rfl) (fun Q2 hQ2 => r_X6_sv hX (d := (d + 1)) e9 hQ2) ?_
        refine go_to hX 47 c_211 rfl rfl ?_
        cases hF
        exact go_iret hX c_211 rfl rfl rfl hQ
    · refine go_cf hX c_211 rfl (by decide) hc2 ?_
      refine go_adv hX c_211 3 (F2 := (21, [.int (ki 3), .int x1, .ref x0], [(0, .ref x0), (1, .int x1), (2, .int x2)], h)) rfl ?_
      obtain ⟨_, e10, hF⟩ := mm_bind hF
      obtain ⟨v11, e12, hF⟩ := mm_bind hF
      refine go_cV hX (As := [.int x1, .int (ki 3)]) (rv := some (.int v11)) (h2 := h) (ci := 6) c_211 rfl (Nat.le_of_ble_eq_true rfl) rfl rfl e10 (by decide) (Nat.le_of_ble_eq_true rfl) (fun Q2 hQ2 => r_X6_sv hX (d := (d + 1)) e12 hQ2) ?_
      refine go_to hX 47 c_211 rfl rfl ?_
      cases hF
      exact go_iret hX c_211 rfl rfl rfl hQ
  · refine go_zf hX c_211 rfl (by decide) hc1 ?_
    refine go_adv hX c_211 3 (F2 := (7, [.int (ki 2), .int x1, .ref x0], [(0, .ref x0), (1, .int x1), (2, .int x2)], h)) rfl ?_
    obtain ⟨_, e13, hF⟩ := mm_bind hF
    obtain ⟨v14, e15, hF⟩ := mm_bind hF
    refine go_cV hX (As := [.int x1, .int (ki 2)]) (rv := some (.int v14)) (h2 := h) (ci := 6) c_211 rfl (Nat.le_of_ble_eq_true rfl) rfl rfl e13 (by decide) (Nat.le_of_ble_eq_true rfl) (fun Q2 hQ2 => r_X6_sv hX (d := (d + 1)) e15 hQ2) ?_
    refine go_to hX 47 c_211 rfl rfl ?_
    cases hF
    exact go_iret hX c_211 rfl rfl rfl hQ
theorem c_212 : mm_cd 212 = k_X6_ranked := rfl
def F_X6_ranked_L38 : Nat → Nat → Int32 → Int32 → Int32 → Int32 → Int32 → mm_S → Option (Int32 × mm_S)
  | 0, _, _, _, _, _, _, _ => none
  | n + 1, x0, x1, x2, x3, x4, x5, h =>
    (fx_gR h x0 6 0).bind fun v11 =>
    (fx_aI h v11 (ki 0)).bind fun v13 =>
    if v13 ≤ x5 then
      some ((x4, h))
    else
      (fx_is h x0 6).bind fun _ =>
      (F_X6_measured h x0 x5 x1).bind fun v17 =>
      (fx_is h x0 6).bind fun _ =>
      (F_X6_measured h x0 x3 x1).bind fun v20 =>
      if v20 < v17 then
        F_X6_ranked_L38 n x0 x1 x2 x3 (x4 + (ki 1)) (x5 + ki 1) h
      else
        (fx_is h x0 6).bind fun _ =>
        (F_X6_measured h x0 x5 x1).bind fun v24 =>
        (fx_is h x0 6).bind fun _ =>
        (F_X6_measured h x0 x3 x1).bind fun v27 =>
        if v24 ≠ v27 then
          F_X6_ranked_L38 n x0 x1 x2 x3 (x4 + (ki 0)) (x5 + ki 1) h
        else
          if x3 ≤ x5 then
            F_X6_ranked_L38 n x0 x1 x2 x3 (x4 + (ki 0)) (x5 + ki 1) h
          else
            F_X6_ranked_L38 n x0 x1 x2 x3 (x4 + (ki 1)) (x5 + ki 1) h
def F_X6_ranked_L22 : Nat → Nat → Int32 → Int32 → Int32 → mm_S → Option ((Int32 × mm_S) ⊕ mm_S)
  | 0, _, _, _, _, _ => none
  | n + 1, x0, x1, x2, x3, h =>
    (fx_gR h x0 6 0).bind fun v6 =>
    (fx_aI h v6 (ki 0)).bind fun v8 =>
    if v8 ≤ x3 then
      some (.inr h)
    else
      (F_X6_ranked_L38 1000 x0 x1 x2 x3 (ki 0) (ki 0) h).bind fun o31 =>
      if o31.1 ≠ x2 then
        F_X6_ranked_L22 n x0 x1 x2 (x3 + ki 1) o31.2
      else
        some (.inl (x3, o31.2))
def F_X6_ranked (h : mm_S) (x0 : Nat) (x1 : Int32) (x2 : Int32) : Option (Int32 × mm_S) :=
  (fx_pV h x0 6 5 (.int (ki 0))).bind fun h1 =>
  (F_X6_in h1 x1 (ki 0) (ki 3)).bind fun v3 =>
  if v3 ≠ 0 then
    (F_X6_ranked_L22 1000 x0 x1 x2 (ki 0) h1).bind fun o34 => match o34 with
      | .inl o34r => some o34r
      | .inr o34e =>
        (fx_is o34e x0 6).bind fun _ =>
        (F_X6_no o34e x0 (ki 2)).bind fun v37 =>
        some (v37.1, v37.2)
  else
    (fx_is h1 x0 6).bind fun _ =>
    (F_X6_no h1 x0 (ki 1)).bind fun v40 =>
    some (v40.1, v40.2)
theorem r_X6_ranked_L38 {X : mm_Cl} (hX : mm_mono X) {d c k : Nat} {Q : mm_Re → Prop} : ∀ (n : Nat) (x0 : Nat) (x1 : Int32) (x2 : Int32) (x3 : Int32) (x4 : Int32) (x5 : Int32) (h : mm_S) (o : (Int32 × mm_S)), F_X6_ranked_L38 n x0 x1 x2 x3 x4 x5 h = some o → (mm_Ex (mm_Run X (d + 3)) 212 Q (103, [], [(0, .ref x0), (1, .int x1), (2, .int x2), (3, .int x3), (4, .int o.1)], o.2) c k) → mm_Ex (mm_Run X (d + 3)) 212 Q (38, [], [(0, .ref x0), (1, .int x1), (2, .int x2), (3, .int x3), (4, .int x4), (5, .int x5)], h) c k := by
  intro n
  induction n with
  | zero => intro x0 x1 x2 x3 x4 x5 h o hF; cases hF
  | succ n ih =>
    intro x0 x1 x2 x3 x4 x5 h o hF hE
    unfold F_X6_ranked_L38 at hF
    refine go_adv hX c_212 2 (F2 := (41, [.ref x0, .int x5], [(0, .ref x0), (1, .int x1), (2, .int x2), (3, .int x3), (4, .int x4), (5, .int x5)], h)) rfl ?_
    obtain ⟨v11, e12, hF⟩ := mm_bind hF
    refine go_gR hX c_212 rfl e12 ?_
    refine go_adv hX c_212 1 (F2 := (45, [.int (ki 0), .ref v11, .int x5], [(0, .ref x0), (1, .int x1), (2, .int x2), (3, .int x3), (4, .int x4), (5, .int x5)], h)) rfl ?_
    obtain ⟨v13, e14, hF⟩ := mm_bind hF
    refine go_aI hX c_212 rfl e14 ?_
    rcases mm_ite hF with ⟨hc15, hF⟩ | ⟨hc15, hF⟩
    · refine go_ct hX 103 c_212 rfl rfl hc15 ?_
      cases hF
      refine go_ls [(0, .ref x0), (1, .int x1), (2, .int x2), (3, .int x3), (4, .int x4)] ⟨rfl, ⟨rfl, ⟨rfl, ⟨rfl, ⟨rfl, trivial⟩⟩⟩⟩⟩ ?_
      exact hE
    · refine go_cf hX c_212 rfl (by decide) hc15 ?_
      refine go_adv hX c_212 4 (F2 := (55, [.int x1, .int x5, .ref x0, .int x4], [(0, .ref x0), (1, .int x1), (2, .int x2), (3, .int x3), (4, .int x4), (5, .int x5)], h)) rfl ?_
      obtain ⟨_, e16, hF⟩ := mm_bind hF
      obtain ⟨v17, e18, hF⟩ := mm_bind hF
      refine go_cV hX (As := [.int x5, .int x1]) (rv := some (.int v17)) (h2 := h) (ci := 6) c_212 rfl (Nat.le_of_ble_eq_true rfl) rfl rfl e16 (by decide) (Nat.le_of_ble_eq_true rfl) (fun Q2 hQ2 => r_X6_measured hX (d := d) e18 hQ2) ?_
      refine go_adv hX c_212 3 (F2 := (61, [.int x1, .int x3, .ref x0, .int v17, .int x4], [(0, .ref x0), (1, .int x1), (2, .int x2), (3, .int x3), (4, .int x4), (5, .int x5)], h)) rfl ?_
      obtain ⟨_, e19, hF⟩ := mm_bind hF
      obtain ⟨v20, e21, hF⟩ := mm_bind hF
      refine go_cV hX (As := [.int x3, .int x1]) (rv := some (.int v20)) (h2 := h) (ci := 6) c_212 rfl (Nat.le_of_ble_eq_true rfl) rfl rfl e19 (by decide) (Nat.le_of_ble_eq_true rfl) (fun Q2 hQ2 => r_X6_measured hX (d := d) e21 hQ2) ?_
      rcases mm_ite hF with ⟨hc22, hF⟩ | ⟨hc22, hF⟩
      · refine go_ct hX 89 c_212 rfl rfl hc22 ?_
        refine go_adv hX c_212 1 (F2 := (90, [.int (ki 1), .int x4], [(0, .ref x0), (1, .int x1), (2, .int x2), (3, .int x3), (4, .int x4), (5, .int x5)], h)) rfl ?_
        refine go_to hX 94 c_212 rfl rfl ?_
        refine go_adv hX c_212 3 (F2 := (100, [], [(5, .int (x5 + ki 1)), (4, .int (x4 + (ki 1))), (0, .ref x0), (1, .int x1), (2, .int x2), (3, .int x3)], h)) rfl ?_
        refine go_to hX 38 c_212 rfl rfl ?_
        refine go_ls [(0, .ref x0), (1, .int x1), (2, .int x2), (3, .int x3), (4, .int (x4 + (ki 1))), (5, .int (x5 + ki 1))] ⟨rfl, ⟨rfl, ⟨rfl, ⟨rfl, ⟨rfl, ⟨rfl, trivial⟩⟩⟩⟩⟩⟩ ?_
        exact ih x0 x1 x2 x3 (x4 + (ki 1)) (x5 + ki 1) h _ hF hE
      · refine go_cf hX c_212 rfl (by decide) hc22 ?_
        refine go_adv hX c_212 3 (F2 := (71, [.int x1, .int x5, .ref x0, .int x4], [(0, .ref x0), (1, .int x1), (2, .int x2), (3, .int x3), (4, .int x4), (5, .int x5)], h)) rfl ?_
        obtain ⟨_, e23, hF⟩ := mm_bind hF
        obtain ⟨v24, e25, hF⟩ := mm_bind hF
        refine go_cV hX (As := [.int x5, .int x1]) (rv := some (.int v24)) (h2 := h) (ci := 6) c_212 rfl (Nat.le_of_ble_eq_true rfl) rfl rfl e23 (by decide) (Nat.le_of_ble_eq_true rfl) (fun Q2 hQ2 => r_X6_measured hX (d := d) e25 hQ2) ?_
        refine go_adv hX c_212 3 (F2 := (77, [.int x1, .int x3, .ref x0, .int v24, .int x4], [(0, .ref x0), (1, .int x1), (2, .int x2), (3, .int x3), (4, .int x4), (5, .int x5)], h)) rfl ?_
        obtain ⟨_, e26, hF⟩ := mm_bind hF
        obtain ⟨v27, e28, hF⟩ := mm_bind hF
        refine go_cV hX (As := [.int x3, .int x1]) (rv := some (.int v27)) (h2 := h) (ci := 6) c_212 rfl (Nat.le_of_ble_eq_true rfl) rfl rfl e26 (by decide) (Nat.le_of_ble_eq_true rfl) (fun Q2 hQ2 => r_X6_measured hX (d := d) e28 hQ2) ?_
        rcases mm_ite hF with ⟨hc29, hF⟩ | ⟨hc29, hF⟩
        · refine go_ct hX 93 c_212 rfl rfl hc29 ?_
          refine go_adv hX c_212 4 (F2 := (100, [], [(5, .int (x5 + ki 1)), (4, .int (x4 + (ki 0))), (0, .ref x0), (1, .int x1), (2, .int x2), (3, .int x3)], h)) rfl ?_
          refine go_to hX 38 c_212 rfl rfl ?_
          refine go_ls [(0, .ref x0), (1, .int x1), (2, .int x2), (3, .int x3), (4, .int (x4 + (ki 0))), (5, .int (x5 + ki 1))] ⟨rfl, ⟨rfl, ⟨rfl, ⟨rfl, ⟨rfl, ⟨rfl, trivial⟩⟩⟩⟩⟩⟩ ?_
          exact ih x0 x1 x2 x3 (x4 + (ki 0)) (x5 + ki 1) h _ hF hE
        · refine go_cf hX c_212 rfl (by decide) hc29 ?_
          refine go_adv hX c_212 2 (F2 := (86, [.int x3, .int x5, .int x4], [(0, .ref x0), (1, .int x1), (2, .int x2), (3, .int x3), (4, .int x4), (5, .int x5)], h)) rfl ?_
          rcases mm_ite hF with ⟨hc30, hF⟩ | ⟨hc30, hF⟩
          · refine go_ct hX 93 c_212 rfl rfl hc30 ?_
            refine go_adv hX c_212 4 (F2 := (100, [], [(5, .int (x5 + ki 1)), (4, .int (x4 + (ki 0))), (0, .ref x0), (1, .int x1), (2, .int x2), (3, .int x3)], h)) rfl ?_
            refine go_to hX 38 c_212 rfl rfl ?_
            refine go_ls [(0, .ref x0), (1, .int x1), (2, .int x2), (3, .int x3), (4, .int (x4 + (ki 0))), (5, .int (x5 + ki 1))] ⟨rfl, ⟨rfl, ⟨rfl, ⟨rfl, ⟨rfl, ⟨rfl, trivial⟩⟩⟩⟩⟩⟩ ?_
            exact ih x0 x1 x2 x3 (x4 + (ki 0)) (x5 + ki 1) h _ hF hE
          · refine go_cf hX c_212 rfl (by decide) hc30 ?_
            refine go_adv hX c_212 1 (F2 := (90, [.int (ki 1), .int x4], [(0, .ref x0), (1, .int x1), (2, .int x2), (3, .int x3), (4, .int x4), (5, .int x5)], h)) rfl ?_
            refine go_to hX 94 c_212 rfl rfl ?_
            refine go_adv hX c_212 3 (F2 := (100, [], [(5, .int (x5 + ki 1)), (4, .int (x4 + (ki 1))), (0, .ref x0), (1, .int x1), (2, .int x2), (3, .int x3)], h)) rfl ?_
            refine go_to hX 38 c_212 rfl rfl ?_
            refine go_ls [(0, .ref x0), (1, .int x1), (2, .int x2), (3, .int x3), (4, .int (x4 + (ki 1))), (5, .int (x5 + ki 1))] ⟨rfl, ⟨rfl, ⟨rfl, ⟨rfl, ⟨rfl, ⟨rfl, trivial⟩⟩⟩⟩⟩⟩ ?_
            exact ih x0 x1 x2 x3 (x4 + (ki 1)) (x5 + ki 1) h _ hF hE
theorem r_X6_ranked_L22 {X : mm_Cl} (hX : mm_mono X) {d c k : Nat} {Q : mm_Re → Prop} : ∀ (n : Nat) (x0 : Nat) (x1 : Int32) (x2 : Int32) (x3 : Int32) (h : mm_S) (o : ((Int32 × mm_S) ⊕ mm_S)), F_X6_ranked_L22 n x0 x1 x2 x3 h = some o → (∀ r, o = .inl r → Q (.inl (some (.int r.1)), r.2)) → (∀ e, o = .inr e → mm_Ex (mm_Run X (d + 3)) 212 Q (117, [], [(0, .ref x0)], e) c k) → mm_Ex (mm_Run X (d + 3)) 212 Q (22, [], [(0, .ref x0), (1, .int x1), (2, .int x2), (3, .int x3)], h) c k := by
  intro n
  induction n with
  | zero => intro x0 x1 x2 x3 h o hF; cases hF
  | succ n ih =>
    intro x0 x1 x2 x3 h o hF hR hE
    unfold F_X6_ranked_L22 at hF
    refine go_adv hX c_212 2 (F2 := (24, [.ref x0, .int x3], [(0, .ref x0), (1, .int x1), (2, .int x2), (3, .int x3)], h)) rfl ?_
    obtain ⟨v6, e7, hF⟩ := mm_bind hF
    refine go_gR hX c_212 rfl e7 ?_
    refine go_adv hX c_212 1 (F2 := (28, [.int (ki 0), .ref v6, .int x3], [(0, .ref x0), (1, .int x1), (2, .int x2), (3, .int x3)], h)) rfl ?_
    obtain ⟨v8, e9, hF⟩ := mm_bind hF
    refine go_aI hX c_212 rfl e9 ?_
    rcases mm_ite hF with ⟨hc10, hF⟩ | ⟨hc10, hF⟩
    · refine go_ct hX 117 c_212 rfl rfl hc10 ?_
      cases hF
      refine go_ls [(0, .ref x0)] ⟨rfl, trivial⟩ ?_
      exact hE _ rfl
    · refine go_cf hX c_212 rfl (by decide) hc10 ?_
      refine go_adv hX c_212 4 (F2 := (38, [], [(5, .int (ki 0)), (4, .int (ki 0)), (0, .ref x0), (1, .int x1), (2, .int x2), (3, .int x3)], h)) rfl ?_
      refine go_ls [(0, .ref x0), (1, .int x1), (2, .int x2), (3, .int x3), (4, .int (ki 0)), (5, .int (ki 0))] ⟨rfl, ⟨rfl, ⟨rfl, ⟨rfl, ⟨rfl, ⟨rfl, trivial⟩⟩⟩⟩⟩⟩ ?_
      obtain ⟨o31, e32, hF⟩ := mm_bind hF
      refine r_X6_ranked_L38 hX 1000 x0 x1 x2 x3 (ki 0) (ki 0) h o31 e32 ?_
      refine go_adv hX c_212 2 (F2 := (106, [.int x2, .int o31.1], [(0, .ref x0), (1, .int x1), (2, .int x2), (3, .int x3), (4, .int o31.1)], o31.2)) rfl ?_
      rcases mm_ite hF with ⟨hc33, hF⟩ | ⟨hc33, hF⟩
      · refine go_ct hX 111 c_212 rfl rfl hc33 ?_
        refine go_adv hX c_212 1 (F2 := (114, [], [(3, .int (x3 + ki 1)), (0, .ref x0), (1, .int x1), (2, .int x2), (4, .int o31.1)], o31.2)) rfl ?_
        refine go_to hX 22 c_212 rfl rfl ?_
        refine go_ls [(0, .ref x0), (1, .int x1), (2, .int x2), (3, .int (x3 + ki 1))] ⟨rfl, ⟨rfl, ⟨rfl, ⟨rfl, trivial⟩⟩⟩⟩ ?_
        exact ih x0 x1 x2 (x3 + ki 1) o31.2 _ hF hR hE
      · refine go_cf hX c_212 rfl (by decide) hc33 ?_
        refine go_adv hX c_212 1 (F2 := (110, [.int x3], [(0, .ref x0), (1, .int x1), (2, .int x2), (3, .int x3), (4, .int o31.1)], o31.2)) rfl ?_
        cases hF
        have hQ := hR _ rfl
        exact go_iret hX c_212 rfl rfl rfl hQ
theorem r_X6_ranked {X : mm_Cl} (hX : mm_mono X) {d c k : Nat} {Q : mm_Re → Prop} {h : mm_S} {x0 : Nat} {x1 : Int32} {x2 : Int32} {o : (Int32 × mm_S)} (hF : F_X6_ranked h x0 x1 x2 = some o) (hQ : Q (.inl (some (.int o.1)), o.2)) : mm_Run X (d + 4) 212 c k [.ref x0, .int x1, .int x2] h Q := by
  unfold F_X6_ranked at hF
  refine mm_Run_in (by decide) (by decide) (Nat.le_of_ble_eq_true rfl) ?_
  show mm_Ex (mm_Run X (d + 3)) 212 Q (0, [], [(0, .ref x0), (1, .int x1), (2, .int x2)], h) c k
  refine go_adv hX c_212 2 (F2 := (2, [.int (ki 0), .ref x0], [(0, .ref x0), (1, .int x1), (2, .int x2)], h)) rfl ?_
  obtain ⟨h1, e2, hF⟩ := mm_bind hF
  refine go_pV hX c_212 rfl e2 ?_
  refine go_adv hX c_212 3 (F2 := (8, [.int (ki 3), .int (ki 0), .int x1], [(0, .ref x0), (1, .int x1), (2, .int x2)], h1)) rfl ?_
  obtain ⟨v3, e4, hF⟩ := mm_bind hF
  refine go_cS hX (As := [.int x1, .int (ki 0), .int (ki 3)]) (rv := some (.int v3)) (h2 := h1) c_212 rfl (by decide) (Nat.le_of_ble_eq_true rfl) rfl rfl (Nat.le_of_ble_eq_true rfl) (fun Q2 hQ2 => r_X6_in hX (d := (d + 2)) e4 hQ2) ?_
  rcases mm_ite hF with ⟨hc5, hF⟩ | ⟨hc5, hF⟩
  · refine go_zt hX 20 c_212 rfl rfl hc5 ?_
    refine go_adv hX c_212 2 (F2 := (22, [], [(3, .int (ki 0)), (0, .ref x0), (1, .int x1), (2, .int x2)], h1)) rfl ?_
    refine go_ls [(0, .ref x0), (1, .int x1), (2, .int x2), (3, .int (ki 0))] ⟨rfl, ⟨rfl, ⟨rfl, ⟨rfl, trivial⟩⟩⟩⟩ ?_
    obtain ⟨o34, e35, hF⟩ := mm_bind hF
    refine r_X6_ranked_L22 hX 1000 x0 x1 x2 (ki 0) h1 o34 e35 ?_ ?_
    · intro o34r hr
      subst hr
      dsimp only at hF
      cases hF
      exact hQ
    · intro o34e he
      subst he
      dsimp only at hF
      refine go_adv hX c_212 2 (F2 := (119, [.int (ki 2), .ref x0], [(0, .ref x0)], o34e)) rfl ?_
      obtain ⟨_, e36, hF⟩ := mm_bind hF
      obtain ⟨v37, e38, hF⟩ := mm_bind hF
      refine go_cV hX (As := [.int (ki 2)]) (rv := some (.int v37.1)) (h2 := v37.2) (ci := 6) c_212 rfl (Nat.le_of_ble_eq_true rfl) rfl rfl e36 (by decide) (Nat.le_of_ble_eq_true rfl) (fun Q2 hQ2 => r_X6_no hX (d := (d + 2)) e38 hQ2) ?_
      cases hF
      exact go_iret hX c_212 rfl rfl rfl hQ
  · refine go_zf hX c_212 rfl (by decide) hc5 ?_
    refine go_adv hX c_212 2 (F2 := (16, [.int (ki 1), .ref x0], [(0, .ref x0), (1, .int x1), (2, .int x2)], h1)) rfl ?_
    obtain ⟨_, e39, hF⟩ := mm_bind hF
    obtain ⟨v40, e41, hF⟩ := mm_bind hF
    refine go_cV hX (As := [.int (ki 1)]) (rv := some (.int v40.1)) (h2 := v40.2) (ci := 6) c_212 rfl (Nat.le_of_ble_eq_true rfl) rfl rfl e39 (by decide) (Nat.le_of_ble_eq_true rfl) (fun Q2 hQ2 => r_X6_no hX (d := (d + 2)) e41 hQ2) ?_
    cases hF
    exact go_iret hX c_212 rfl rfl rfl hQ
theorem c_213 : mm_cd 213 = k_X6_isTold := rfl
def F_X6_isTold (h : mm_S) (x0 : Nat) : Option (Int32 × mm_S) :=
  (fx_pV h x0 6 5 (.int (ki 0))).bind fun h1 =>
  some (ki 1, h1)
theorem r_X6_isTold {X : mm_Cl} (hX : mm_mono X) {d c k : Nat} {Q : mm_Re → Prop} {h : mm_S} {x0 : Nat} {o : (Int32 × mm_S)} (hF : F_X6_isTold h x0 = some o) (hQ : Q (.inl (some (.int o.1)), o.2)) : mm_Run X (d + 1) 213 c k [.ref x0] h Q := by
  unfold F_X6_isTold at hF
  refine mm_Run_in (by decide) (by decide) (Nat.le_of_ble_eq_true rfl) ?_
  show mm_Ex (mm_Run X d) 213 Q (0, [], [(0, .ref x0)], h) c k
  refine go_adv hX c_213 2 (F2 := (2, [.int (ki 0), .ref x0], [(0, .ref x0)], h)) rfl ?_
  obtain ⟨h1, e2, hF⟩ := mm_bind hF
  refine go_pV hX c_213 rfl e2 ?_
  refine go_adv hX c_213 1 (F2 := (6, [.int (ki 1)], [(0, .ref x0)], h1)) rfl ?_
  cases hF
  exact go_iret hX c_213 rfl rfl (by decide) hQ
theorem c_214 : mm_cd 214 = k_X6_append := rfl
def F_X6_append (h : mm_S) (x0 : Nat) (x1 : Int32) : Option (Int32 × mm_S) :=
  (fx_pV h x0 6 5 (.int (ki 0))).bind fun h1 =>
  (F_X6_in h1 x1 (kb 32) (kb 126)).bind fun v3 =>
  if v3 ≠ 0 then
    (fx_gI h1 x0 6 19).bind fun v6 =>
    if v6 ≠ (kb 60) then
      (fx_gR h1 x0 6 16).bind fun v9 =>
      (fx_gI h1 x0 6 19).bind fun v11 =>
      (fx_sI h1 v9 v11 x1).bind fun h13 =>
      (fx_gI h13 x0 6 19).bind fun v15 =>
      (fx_pV h13 x0 6 19 (.int (v15 + (ki 1)))).bind fun h17 =>
      (fx_gI h17 x0 6 19).bind fun v19 =>
      some (v19, h17)
    else
      (fx_is h1 x0 6).bind fun _ =>
      (F_X6_no h1 x0 (ki 2)).bind fun v22 =>
      some (v22.1, v22.2)
  else
    (fx_is h1 x0 6).bind fun _ =>
    (F_X6_no h1 x0 (ki 1)).bind fun v25 =>
    some (v25.1, v25.2)
theorem r_X6_append {X : mm_Cl} (hX : mm_mono X) {d c k : Nat} {Q : mm_Re → Prop} {h : mm_S} {x0 : Nat} {x1 : Int32} {o : (Int32 × mm_S)} (hF : F_X6_append h x0 x1 = some o) (hQ : Q (.inl (some (.int o.1)), o.2)) : mm_Run X (d + 2) 214 c k [.ref x0, .int x1] h Q := by
  unfold F_X6_append at hF
  refine mm_Run_in (by decide) (by decide) (Nat.le_of_ble_eq_true rfl) ?_
  show mm_Ex (mm_Run X (d + 1)) 214 Q (0, [], [(0, .ref x0), (1, .int x1)], h) c k
  refine go_adv hX c_214 2 (F2 := (2, [.int (ki 0), .ref x0], [(0, .ref x0), (1, .int x1)], h)) rfl ?_
  obtain ⟨h1, e2, hF⟩ := mm_bind hF
  refine go_pV hX c_214 rfl e2 ?_
  refine go_adv hX c_214 3 (F2 := (10, [.int (kb 126), .int (kb 32), .int x1], [(0, .ref x0), (1, .int x1)], h1)) rfl ?_
  obtain ⟨v3, e4, hF⟩ := mm_bind hF
  refine go_cS hX (As := [.int x1, .int (kb 32), .int (kb 126)]) (rv := some (.int v3)) (h2 := h1) c_214 rfl (by decide) (Nat.le_of_ble_eq_true rfl) rfl rfl (Nat.le_of_ble_eq_true rfl) (fun Q2 hQ2 => r_X6_in hX (d := d) e4 hQ2) ?_
  rcases mm_ite hF with ⟨hc5, hF⟩ | ⟨hc5, hF⟩
  · refine go_zt hX 22 c_214 rfl rfl hc5 ?_
    refine go_adv hX c_214 1 (F2 := (23, [.ref x0], [(0, .ref x0), (1, .int x1)], h1)) rfl ?_
    obtain ⟨v6, e7, hF⟩ := mm_bind hF
    refine go_gI hX c_214 rfl e7 ?_
    refine go_adv hX c_214 1 (F2 := (28, [.int (kb 60), .int v6], [(0, .ref x0), (1, .int x1)], h1)) rfl ?_
    rcases mm_ite hF with ⟨hc8, hF⟩ | ⟨hc8, hF⟩
    · refine go_ct hX 37 c_214 rfl rfl hc8 ?_
      refine go_adv hX c_214 1 (F2 := (38, [.ref x0], [(0, .ref x0), (1, .int x1)], h1)) rfl ?_
      obtain ⟨v9, e10, hF⟩ := mm_bind hF
      refine go_gR hX c_214 rfl e10 ?_
      refine go_adv hX c_214 1 (F2 := (42, [.ref x0, .ref v9], [(0, .ref x0), (1, .int x1)], h1)) rfl ?_
      obtain ⟨v11, e12, hF⟩ := mm_bind hF
      refine go_gI hX c_214 rfl e12 ?_
      refine go_adv hX c_214 1 (F2 := (46, [.int x1, .int v11, .ref v9], [(0, .ref x0), (1, .int x1)], h1)) rfl ?_
      obtain ⟨h13, e14, hF⟩ := mm_bind hF
      refine go_sI hX c_214 rfl e14 ?_
      refine go_adv hX c_214 1 (F2 := (48, [.ref x0], [(0, .ref x0), (1, .int x1)], h13)) rfl ?_
      refine go_p hX c_214 rfl rfl rfl ?_
      obtain ⟨v15, e16, hF⟩ := mm_bind hF
      refine go_gI hX c_214 rfl e16 ?_
      refine go_adv hX c_214 2 (F2 := (54, [.int (v15 + (ki 1)), .ref x0], [(0, .ref x0), (1, .int x1)], h13)) rfl ?_
      obtain ⟨h17, e18, hF⟩ := mm_bind hF
      refine go_pV hX c_214 rfl e18 ?_
      refine go_adv hX c_214 1 (F2 := (58, [.ref x0], [(0, .ref x0), (1, .int x1)], h17)) rfl ?_
      obtain ⟨v19, e20, hF⟩ := mm_bind hF
      refine go_gI hX c_214 rfl e20 ?_
      cases hF
      exact go_iret hX c_214 rfl rfl rfl hQ
    · refine go_cf hX c_214 rfl (by decide) hc8 ?_
      refine go_adv hX c_214 2 (F2 := (33, [.int (ki 2), .ref x0], [(0, .ref x0), (1, .int x1)], h1)) rfl ?_
      obtain ⟨_, e21, hF⟩ := mm_bind hF
      obtain ⟨v22, e23, hF⟩ := mm_bind hF
      refine go_cV hX (As := [.int (ki 2)]) (rv := some (.int v22.1)) (h2 := v22.2) (ci := 6) c_214 rfl (Nat.le_of_ble_eq_true rfl) rfl rfl e21 (by decide) (Nat.le_of_ble_eq_true rfl) (fun Q2 hQ2 => r_X6_no hX (d := d) e23 hQ2) ?_
      cases hF
      exact go_iret hX c_214 rfl rfl rfl hQ
  · refine go_zf hX c_214 rfl (by decide) hc5 ?_
    refine go_adv hX c_214 2 (F2 := (18, [.int (ki 1), .ref x0], [(0, .ref x0), (1, .int x1)], h1)) rfl ?_
    obtain ⟨_, e24, hF⟩ := mm_bind hF
    obtain ⟨v25, e26, hF⟩ := mm_bind hF
    refine go_cV hX (As := [.int (ki 1)]) (rv := some (.int v25.1)) (h2 := v25.2) (ci := 6) c_214 rfl (Nat.le_of_ble_eq_true rfl) rfl rfl e24 (by decide) (Nat.le_of_ble_eq_true rfl) (fun Q2 hQ2 => r_X6_no hX (d := d) e26 hQ2) ?_
    cases hF
    exact go_iret hX c_214 rfl rfl rfl hQ
theorem c_215 : mm_cd 215 = k_X6_mark := rfl
def F_X6_mark (h : mm_S) (x0 : Nat) : Option Int32 :=
  (fx_gI h x0 6 23).bind fun v1 =>
  if v1 ≠ 0 then
    some (ki (-1))
  else
    (fx_gI h x0 6 21).bind fun v4 =>
    (fx_gI h x0 6 20).bind fun v6 =>
    if v6 ≤ v4 then
      some (ki (-1))
    else
      (fx_gR h x0 6 16).bind fun v9 =>
      (fx_gI h x0 6 21).bind fun v11 =>
      (fx_aI h v9 v11).bind fun v13 =>
      some v13
theorem r_X6_mark {X : mm_Cl} (hX : mm_mono X) {d c k : Nat} {Q : mm_Re → Prop} {h : mm_S} {x0 : Nat} {o : Int32} (hF : F_X6_mark h x0 = some o) (hQ : Q (.inl (some (.int o)), h)) : mm_Run X (d + 1) 215 c k [.ref x0] h Q := by
  unfold F_X6_mark at hF
  refine mm_Run_in (by decide) (by decide) (Nat.le_of_ble_eq_true rfl) ?_
  show mm_Ex (mm_Run X d) 215 Q (0, [], [(0, .ref x0)], h) c k
  refine go_adv hX c_215 1 (F2 := (1, [.ref x0], [(0, .ref x0)], h)) rfl ?_
  obtain ⟨v1, e2, hF⟩ := mm_bind hF
  refine go_gI hX c_215 rfl e2 ?_
  rcases mm_ite hF with ⟨hc3, hF⟩ | ⟨hc3, hF⟩
  · refine go_zt hX 30 c_215 rfl rfl hc3 ?_
    refine go_adv hX c_215 1 (F2 := (31, [.int (ki (-1))], [(0, .ref x0)], h)) rfl ?_
    cases hF
    exact go_iret hX c_215 rfl rfl rfl hQ
  · refine go_zf hX c_215 rfl (by decide) hc3 ?_
    refine go_adv hX c_215 1 (F2 := (8, [.ref x0], [(0, .ref x0)], h)) rfl ?_
    obtain ⟨v4, e5, hF⟩ := mm_bind hF
    refine go_gI hX c_215 rfl e5 ?_
    refine go_adv hX c_215 1 (F2 := (12, [.ref x0, .int v4], [(0, .ref x0)], h)) rfl ?_
    obtain ⟨v6, e7, hF⟩ := mm_bind hF
    refine go_gI hX c_215 rfl e7 ?_
    rcases mm_ite hF with ⟨hc8, hF⟩ | ⟨hc8, hF⟩
    · refine go_ct hX 30 c_215 rfl rfl hc8 ?_
      refine go_adv hX c_215 1 (F2 := (31, [.int (ki (-1))], [(0, .ref x0)], h)) rfl ?_
      cases hF
      exact go_iret hX c_215 rfl rfl rfl hQ
    · refine go_cf hX c_215 rfl (by decide) hc8 ?_
      refine go_adv hX c_215 1 (F2 := (19, [.ref x0], [(0, .ref x0)], h)) rfl ?_
      obtain ⟨v9, e10, hF⟩ := mm_bind hF
      refine go_gR hX c_215 rfl e10 ?_
      refine go_adv hX c_215 1 (F2 := (23, [.ref x0, .ref v9], [(0, .ref x0)], h)) rfl ?_
      obtain ⟨v11, e12, hF⟩ := mm_bind hF
      refine go_gI hX c_215 rfl e12 ?_
      obtain ⟨v13, e14, hF⟩ := mm_bind hF
      refine go_aI hX c_215 rfl e14 ?_
      refine go_to hX 31 c_215 rfl rfl ?_
      cases hF
      exact go_iret hX c_215 rfl rfl rfl hQ
theorem c_216 : mm_cd 216 = k_X6_isDigit := rfl
def F_X6_isDigit (h : mm_S) (x0 : Nat) : Option Int32 :=
  (fx_is h x0 6).bind fun _ =>
  (F_X6_mark h x0).bind fun v2 =>
  (F_X6_in h v2 (kb 48) (kb 57)).bind fun v4 =>
  (fx_nar .boolean v4).bind fun v6 =>
  some v6
theorem r_X6_isDigit {X : mm_Cl} (hX : mm_mono X) {d c k : Nat} {Q : mm_Re → Prop} {h : mm_S} {x0 : Nat} {o : Int32} (hF : F_X6_isDigit h x0 = some o) (hQ : Q (.inl (some (.int o)), h)) : mm_Run X (d + 2) 216 c k [.ref x0] h Q := by
  unfold F_X6_isDigit at hF
  refine mm_Run_in (by decide) (by decide) (Nat.le_of_ble_eq_true rfl) ?_
  show mm_Ex (mm_Run X (d + 1)) 216 Q (0, [], [(0, .ref x0)], h) c k
  refine go_adv hX c_216 1 (F2 := (1, [.ref x0], [(0, .ref x0)], h)) rfl ?_
  obtain ⟨_, e1, hF⟩ := mm_bind hF
  obtain ⟨v2, e3, hF⟩ := mm_bind hF
  refine go_cV hX (As := []) (rv := some (.int v2)) (h2 := h) (ci := 6) c_216 rfl (Nat.le_of_ble_eq_true rfl) rfl rfl e1 (by decide) (Nat.le_of_ble_eq_true rfl) (fun Q2 hQ2 => r_X6_mark hX (d := d) e3 hQ2) ?_
  refine go_adv hX c_216 2 (F2 := (8, [.int (kb 57), .int (kb 48), .int v2], [(0, .ref x0)], h)) rfl ?_
  obtain ⟨v4, e5, hF⟩ := mm_bind hF
  refine go_cS hX (As := [.int v2, .int (kb 48), .int (kb 57)]) (rv := some (.int v4)) (h2 := h) c_216 rfl (by decide) (Nat.le_of_ble_eq_true rfl) rfl rfl (Nat.le_of_ble_eq_true rfl) (fun Q2 hQ2 => r_X6_in hX (d := d) e5 hQ2) ?_
  obtain ⟨v6, e7, hF⟩ := mm_bind hF
  obtain ⟨rfl, e7n⟩ := fx_nar_s e7
  cases hF
  exact go_iret hX c_216 rfl rfl e7n hQ

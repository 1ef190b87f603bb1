theorem c_217 : mm_cd 217 = k_X6_blank := rfl
def F_X6_blank (h : mm_S) (x0 : Nat) : Option mm_S :=
  (fx_gI h x0 6 23).bind fun v1 =>
  (fx_is h x0 6).bind fun _ =>
  (F_X6_mark h x0).bind fun v4 =>
  if v4 = (kb 32) then
    (fx_pV h x0 6 23 (.int (v1 ||| (ki 0)))).bind fun h7 =>
    (fx_gI h7 x0 6 21).bind fun v9 =>
    (fx_gI h7 x0 6 23).bind fun v11 =>
    if v11 = 0 then
      (fx_pV h7 x0 6 21 (.int (v9 + (ki 1)))).bind fun h14 =>
      some h14
    else
      (fx_pV h7 x0 6 21 (.int (v9 + (ki 0)))).bind fun h16 =>
      some h16
  else
    (fx_pV h x0 6 23 (.int (v1 ||| (ki 1)))).bind fun h18 =>
    (fx_gI h18 x0 6 21).bind fun v20 =>
    (fx_gI h18 x0 6 23).bind fun v22 =>
    if v22 = 0 then
      (fx_pV h18 x0 6 21 (.int (v20 + (ki 1)))).bind fun h25 =>
      some h25
    else
      (fx_pV h18 x0 6 21 (.int (v20 + (ki 0)))).bind fun h27 =>
      some h27
theorem r_X6_blank {X : mm_Cl} (hX : mm_mono X) {d c k : Nat} {Q : mm_Re → Prop} {h : mm_S} {x0 : Nat} {o : mm_S} (hF : F_X6_blank h x0 = some o) (hQ : Q (.inl none, o)) : mm_Run X (d + 2) 217 c k [.ref x0] h Q := by
  unfold F_X6_blank at hF
  refine mm_Run_in (by decide) (by decide) (Nat.le_of_ble_eq_true rfl) ?_
  show mm_Ex (mm_Run X (d + 1)) 217 Q (0, [], [(0, .ref x0)], h) c k
  refine go_adv hX c_217 1 (F2 := (1, [.ref x0], [(0, .ref x0)], h)) rfl ?_
  refine go_p hX c_217 rfl rfl rfl ?_
  obtain ⟨v1, e2, hF⟩ := mm_bind hF
  refine go_gI hX c_217 rfl e2 ?_
  refine go_adv hX c_217 1 (F2 := (6, [.ref x0, .int v1, .ref x0], [(0, .ref x0)], h)) rfl ?_
  obtain ⟨_, e3, hF⟩ := mm_bind hF
  obtain ⟨v4, e5, hF⟩ := mm_bind hF
  refine go_cV hX (As := []) (rv := some (.int v4)) (h2 := h) (ci := 6) c_217 rfl (Nat.le_of_ble_eq_true rfl) rfl rfl e3 (by decide) (Nat.le_of_ble_eq_true rfl) (fun Q2 hQ2 => r_X6_mark hX (d := d) e5 hQ2) ?_
  refine go_adv hX c_217 1 (F2 := (11, [.int (kb 32), .int v4, .int v1, .ref x0], [(0, .ref x0)], h)) rfl ?_
  rcases mm_ite hF with ⟨hc6, hF⟩ | ⟨hc6, hF⟩
  · refine go_ct hX 18 c_217 rfl rfl hc6 ?_
    refine go_adv hX c_217 2 (F2 := (20, [.int (v1 ||| (ki 0)), .ref x0], [(0, .ref x0)], h)) rfl ?_
    obtain ⟨h7, e8, hF⟩ := mm_bind hF
    refine go_pV hX c_217 rfl e8 ?_
    refine go_adv hX c_217 1 (F2 := (24, [.ref x0], [(0, .ref x0)], h7)) rfl ?_
    refine go_p hX c_217 rfl rfl rfl ?_
    obtain ⟨v9, e10, hF⟩ := mm_bind hF
    refine go_gI hX c_217 rfl e10 ?_
    refine go_adv hX c_217 1 (F2 := (29, [.ref x0, .int v9, .ref x0], [(0, .ref x0)], h7)) rfl ?_
    obtain ⟨v11, e12, hF⟩ := mm_bind hF
    refine go_gI hX c_217 rfl e12 ?_
    rcases mm_ite hF with ⟨hc13, hF⟩ | ⟨hc13, hF⟩
    · refine go_zt hX 39 c_217 rfl rfl hc13 ?_
      refine go_adv hX c_217 2 (F2 := (41, [.int (v9 + (ki 1)), .ref x0], [(0, .ref x0)], h7)) rfl ?_
      obtain ⟨h14, e15, hF⟩ := mm_bind hF
      refine go_pV hX c_217 rfl e15 ?_
      cases hF
      exact go_ret hX c_217 rfl rfl hQ
    · refine go_zf hX c_217 rfl (by decide) hc13 ?_
      refine go_adv hX c_217 1 (F2 := (36, [.int (ki 0), .int v9, .ref x0], [(0, .ref x0)], h7)) rfl ?_
      refine go_to hX 40 c_217 rfl rfl ?_
      refine go_adv hX c_217 1 (F2 := (41, [.int (v9 + (ki 0)), .ref x0], [(0, .ref x0)], h7)) rfl ?_
      obtain ⟨h16, e17, hF⟩ := mm_bind hF
      refine go_pV hX c_217 rfl e17 ?_
      cases hF
      exact go_ret hX c_217 rfl rfl hQ
  · refine go_cf hX c_217 rfl (by decide) hc6 ?_
    refine go_adv hX c_217 1 (F2 := (15, [.int (ki 1), .int v1, .ref x0], [(0, .ref x0)], h)) rfl ?_
    refine go_to hX 19 c_217 rfl rfl ?_
    refine go_adv hX c_217 1 (F2 := (20, [.int (v1 ||| (ki 1)), .ref x0], [(0, .ref x0)], h)) rfl ?_
    obtain ⟨h18, e19, hF⟩ := mm_bind hF
    refine go_pV hX c_217 rfl e19 ?_
    refine go_adv hX c_217 1 (F2 := (24, [.ref x0], [(0, .ref x0)], h18)) rfl ?_
    refine go_p hX c_217 rfl rfl rfl ?_
    obtain ⟨v20, e21, hF⟩ := mm_bind hF
    refine go_gI hX c_217 rfl e21 ?_
    refine go_adv hX c_217 1 (F2 := (29, [.ref x0, .int v20, .ref x0], [(0, .ref x0)], h18)) rfl ?_
    obtain ⟨v22, e23, hF⟩ := mm_bind hF
    refine go_gI hX c_217 rfl e23 ?_
    rcases mm_ite hF with ⟨hc24, hF⟩ | ⟨hc24, hF⟩
    · refine go_zt hX 39 c_217 rfl rfl hc24 ?_
      refine go_adv hX c_217 2 (F2 := (41, [.int (v20 + (ki 1)), .ref x0], [(0, .ref x0)], h18)) rfl ?_
      obtain ⟨h25, e26, hF⟩ := mm_bind hF
      refine go_pV hX c_217 rfl e26 ?_
      cases hF
      exact go_ret hX c_217 rfl rfl hQ
    · refine go_zf hX c_217 rfl (by decide) hc24 ?_
      refine go_adv hX c_217 1 (F2 := (36, [.int (ki 0), .int v20, .ref x0], [(0, .ref x0)], h18)) rfl ?_
      refine go_to hX 40 c_217 rfl rfl ?_
      refine go_adv hX c_217 1 (F2 := (41, [.int (v20 + (ki 0)), .ref x0], [(0, .ref x0)], h18)) rfl ?_
      obtain ⟨h27, e28, hF⟩ := mm_bind hF
      refine go_pV hX c_217 rfl e28 ?_
      cases hF
      exact go_ret hX c_217 rfl rfl hQ
theorem c_218 : mm_cd 218 = k_X6_digits := rfl
def F_X6_digits_L25 : Nat → Nat → Int32 → Int32 → Int32 → mm_S → Option (Int32 × mm_S)
  | 0, _, _, _, _, _ => none
  | n + 1, x0, x1, x2, x3, h =>
    if x1 ≤ x3 then
      some ((x2, h))
    else
      (fx_is h x0 6).bind fun _ =>
      (F_X6_isDigit h x0).bind fun v11 =>
      if v11 = 0 then
        some ((x2, h))
      else
        (fx_gR h x0 6 16).bind fun v14 =>
        (fx_gI h x0 6 21).bind fun v16 =>
        (fx_aI h v14 v16).bind fun v18 =>
        (fx_gI h x0 6 21).bind fun v20 =>
        (fx_pV h x0 6 21 (.int (v20 + (ki 1)))).bind fun h22 =>
        F_X6_digits_L25 n x0 x1 ((((kb 10) * x2) + v18) - (kb 48)) (x3 + ki 1) h22
def F_X6_digits_B17 (h : mm_S) (s0 : Int32) (s1 : Int32) (s2 : Nat) (x0 : Nat) (x1 : Int32) : Option (Int32 × mm_S) :=
  (fx_pV h s2 6 23 (.int (s1 ||| s0))).bind fun h7 =>
  (F_X6_digits_L25 1000 x0 x1 (ki 0) (ki 0) h7).bind fun o24 =>
  some (o24.1, o24.2)
def F_X6_digits (h : mm_S) (x0 : Nat) (x1 : Int32) : Option (Int32 × mm_S) :=
  (fx_gI h x0 6 23).bind fun v1 =>
  (fx_is h x0 6).bind fun _ =>
  (F_X6_isDigit h x0).bind fun v4 =>
  if v4 ≠ 0 then
    F_X6_digits_B17 h (ki 0) v1 x0 x0 x1
  else
    F_X6_digits_B17 h (ki 1) v1 x0 x0 x1
theorem r_X6_digits_L25 {X : mm_Cl} (hX : mm_mono X) {d c k : Nat} {Q : mm_Re → Prop} : ∀ (n : Nat) (x0 : Nat) (x1 : Int32) (x2 : Int32) (x3 : Int32) (h : mm_S) (o : (Int32 × mm_S)), F_X6_digits_L25 n x0 x1 x2 x3 h = some o → (mm_Ex (mm_Run X (d + 2)) 218 Q (71, [], [(2, .int o.1)], o.2) c k) → mm_Ex (mm_Run X (d + 2)) 218 Q (25, [], [(0, .ref x0), (1, .int x1), (2, .int x2), (3, .int x3)], h) c k := by
  intro n
  induction n with
  | zero => intro x0 x1 x2 x3 h o hF; cases hF
  | succ n ih =>
    intro x0 x1 x2 x3 h o hF hE
    unfold F_X6_digits_L25 at hF
    refine go_adv hX c_218 2 (F2 := (27, [.int x1, .int x3], [(0, .ref x0), (1, .int x1), (2, .int x2), (3, .int x3)], h)) rfl ?_
    rcases mm_ite hF with ⟨hc9, hF⟩ | ⟨hc9, hF⟩
    · refine go_ct hX 71 c_218 rfl rfl hc9 ?_
      cases hF
      refine go_ls [(2, .int x2)] ⟨rfl, trivial⟩ ?_
      exact hE
    · refine go_cf hX c_218 rfl (by decide) hc9 ?_
      refine go_adv hX c_218 1 (F2 := (31, [.ref x0], [(0, .ref x0), (1, .int x1), (2, .int x2), (3, .int x3)], h)) rfl ?_
      obtain ⟨_, e10, hF⟩ := mm_bind hF
      obtain ⟨v11, e12, hF⟩ := mm_bind hF
      refine go_cV hX (As := []) (rv := some (.int v11)) (h2 := h) (ci := 6) c_218 rfl (Nat.le_of_ble_eq_true rfl) rfl rfl e10 (by decide) (Nat.le_of_ble_eq_true rfl) (fun Q2 hQ2 => r_X6_isDigit hX (d := d) e12 hQ2) ?_
      rcases mm_ite hF with ⟨hc13, hF⟩ | ⟨hc13, hF⟩
      · refine go_zt hX 71 c_218 rfl rfl hc13 ?_
        cases hF
        refine go_ls [(2, .int x2)] ⟨rfl, trivial⟩ ?_
        exact hE
      · refine go_zf hX c_218 rfl (by decide) hc13 ?_
        refine go_adv hX c_218 4 (F2 := (42, [.ref x0, .int ((kb 10) * x2)], [(0, .ref x0), (1, .int x1), (2, .int x2), (3, .int x3)], h)) rfl ?_
        obtain ⟨v14, e15, hF⟩ := mm_bind hF
        refine go_gR hX c_218 rfl e15 ?_
        refine go_adv hX c_218 1 (F2 := (46, [.ref x0, .ref v14, .int ((kb 10) * x2)], [(0, .ref x0), (1, .int x1), (2, .int x2), (3, .int x3)], h)) rfl ?_
        obtain ⟨v16, e17, hF⟩ := mm_bind hF
        refine go_gI hX c_218 rfl e17 ?_
        obtain ⟨v18, e19, hF⟩ := mm_bind hF
        refine go_aI hX c_218 rfl e19 ?_
        refine go_adv hX c_218 5 (F2 := (56, [.ref x0], [(2, .int ((((kb 10) * x2) + v18) - (kb 48))), (0, .ref x0), (1, .int x1), (3, .int x3)], h)) rfl ?_
        refine go_p hX c_218 rfl rfl rfl ?_
        obtain ⟨v20, e21, hF⟩ := mm_bind hF
        refine go_gI hX c_218 rfl e21 ?_
        refine go_adv hX c_218 2 (F2 := (62, [.int (v20 + (ki 1)), .ref x0], [(2, .int ((((kb 10) * x2) + v18) - (kb 48))), (0, .ref x0), (1, .int x1), (3, .int x3)], h)) rfl ?_
        obtain ⟨h22, e23, hF⟩ := mm_bind hF
        refine go_pV hX c_218 rfl e23 ?_
        refine go_adv hX c_218 1 (F2 := (68, [], [(3, .int (x3 + ki 1)), (2, .int ((((kb 10) * x2) + v18) - (kb 48))), (0, .ref x0), (1, .int x1)], h22)) rfl ?_
        refine go_to hX 25 c_218 rfl rfl ?_
        refine go_ls [(0, .ref x0), (1, .int x1), (2, .int ((((kb 10) * x2) + v18) - (kb 48))), (3, .int (x3 + ki 1))] ⟨rfl, ⟨rfl, ⟨rfl, ⟨rfl, trivial⟩⟩⟩⟩ ?_
        exact ih x0 x1 ((((kb 10) * x2) + v18) - (kb 48)) (x3 + ki 1) h22 _ hF hE
theorem r_X6_digits_B17 {X : mm_Cl} (hX : mm_mono X) {d c k : Nat} {Q : mm_Re → Prop} {h : mm_S} {s0 : Int32} {s1 : Int32} {s2 : Nat} {x0 : Nat} {x1 : Int32} {o : (Int32 × mm_S)} (hF : F_X6_digits_B17 h s0 s1 s2 x0 x1 = some o) (hQ : Q (.inl (some (.int o.1)), o.2)) : mm_Ex (mm_Run X (d + 2)) 218 Q (17, [.int s0, .int s1, .ref s2], [(0, .ref x0), (1, .int x1)], h) c k := by
  unfold F_X6_digits_B17 at hF
  refine go_adv hX c_218 1 (F2 := (18, [.int (s1 ||| s0), .ref s2], [(0, .ref x0), (1, .int x1)], h)) rfl ?_
  obtain ⟨h7, e8, hF⟩ := mm_bind hF
  refine go_pV hX c_218 rfl e8 ?_
  refine go_adv hX c_218 4 (F2 := (25, [], [(3, .int (ki 0)), (2, .int (ki 0)), (0, .ref x0), (1, .int x1)], h7)) rfl ?_
  refine go_ls [(0, .ref x0), (1, .int x1), (2, .int (ki 0)), (3, .int (ki 0))] ⟨rfl, ⟨rfl, ⟨rfl, ⟨rfl, trivial⟩⟩⟩⟩ ?_
  obtain ⟨o24, e25, hF⟩ := mm_bind hF
  refine r_X6_digits_L25 hX 1000 x0 x1 (ki 0) (ki 0) h7 o24 e25 ?_
  refine go_adv hX c_218 1 (F2 := (72, [.int o24.1], [(2, .int o24.1)], o24.2)) rfl ?_
  cases hF
  exact go_iret hX c_218 rfl rfl rfl hQ
theorem r_X6_digits {X : mm_Cl} (hX : mm_mono X) {d c k : Nat} {Q : mm_Re → Prop} {h : mm_S} {x0 : Nat} {x1 : Int32} {o : (Int32 × mm_S)} (hF : F_X6_digits h x0 x1 = some o) (hQ : Q (.inl (some (.int o.1)), o.2)) : mm_Run X (d + 3) 218 c k [.ref x0, .int x1] h Q := by
  unfold F_X6_digits at hF
  refine mm_Run_in (by decide) (by decide) (Nat.le_of_ble_eq_true rfl) ?_
  show mm_Ex (mm_Run X (d + 2)) 218 Q (0, [], [(0, .ref x0), (1, .int x1)], h) c k
  refine go_adv hX c_218 1 (F2 := (1, [.ref x0], [(0, .ref x0), (1, .int x1)], h)) rfl ?_
  refine go_p hX c_218 rfl rfl rfl ?_
  obtain ⟨v1, e2, hF⟩ := mm_bind hF
  refine go_gI hX c_218 rfl e2 ?_
  refine go_adv hX c_218 1 (F2 := (6, [.ref x0, .int v1, .ref x0], [(0, .ref x0), (1, .int x1)], h)) rfl ?_
  obtain ⟨_, e3, hF⟩ := mm_bind hF
  obtain ⟨v4, e5, hF⟩ := mm_bind hF
  refine go_cV hX (As := []) (rv := some (.int v4)) (h2 := h) (ci := 6) c_218 rfl (Nat.le_of_ble_eq_true rfl) rfl rfl e3 (by decide) (Nat.le_of_ble_eq_true rfl) (fun Q2 hQ2 => r_X6_isDigit hX (d := d) e5 hQ2) ?_
  rcases mm_ite hF with ⟨hc6, hF⟩ | ⟨hc6, hF⟩
  · refine go_zt hX 16 c_218 rfl rfl hc6 ?_
    refine go_adv hX c_218 1 (F2 := (17, [.int (ki 0), .int v1, .ref x0], [(0, .ref x0), (1, .int x1)], h)) rfl ?_
    refine go_ls [(0, .ref x0), (1, .int x1)] ⟨rfl, ⟨rfl, trivial⟩⟩ ?_
    exact r_X6_digits_B17 hX hF hQ
  · refine go_zf hX c_218 rfl (by decide) hc6 ?_
    refine go_adv hX c_218 1 (F2 := (13, [.int (ki 1), .int v1, .ref x0], [(0, .ref x0), (1, .int x1)], h)) rfl ?_
    refine go_to hX 17 c_218 rfl rfl ?_
    refine go_ls [(0, .ref x0), (1, .int x1)] ⟨rfl, ⟨rfl, trivial⟩⟩ ?_
    exact r_X6_digits_B17 hX hF hQ
theorem c_219 : mm_cd 219 = k_X6_inWord := rfl
def F_X6_inWord (h : mm_S) (x0 : Int32) (x1 : Int32) (x2 : Int32) (x3 : Int32) (x4 : Int32) (x5 : Int32) : Option Int32 :=
  if x0 = nI 0 then
    some x1
  else if x0 = nI 1 then
    some x2
  else if x0 = nI 2 then
    some x3
  else if x0 = nI 3 then
    some x4
  else if x0 = nI 4 then
    some x5
  else
    some (ki 0)
theorem r_X6_inWord {X : mm_Cl} (hX : mm_mono X) {d c k : Nat} {Q : mm_Re → Prop} {h : mm_S} {x0 : Int32} {x1 : Int32} {x2 : Int32} {x3 : Int32} {x4 : Int32} {x5 : Int32} {o : Int32} (hF : F_X6_inWord h x0 x1 x2 x3 x4 x5 = some o) (hQ : Q (.inl (some (.int o)), h)) : mm_Run X (d + 1) 219 c k [.int x0, .int x1, .int x2, .int x3, .int x4, .int x5] h Q := by
  unfold F_X6_inWord at hF
  refine mm_Run_in (by decide) (by decide) (Nat.le_of_ble_eq_true rfl) ?_
  show mm_Ex (mm_Run X d) 219 Q (0, [], [(0, .int x0), (1, .int x1), (2, .int x2), (3, .int x3), (4, .int x4), (5, .int x5)], h) c k
  refine go_adv hX c_219 1 (F2 := (1, [.int x0], [(0, .int x0), (1, .int x1), (2, .int x2), (3, .int x3), (4, .int x4), (5, .int x5)], h)) rfl ?_
  rcases mm_ite hF with ⟨hc1, hF⟩ | ⟨hc1, hF⟩
  · refine go_sw hX 36 c_219 rfl hc1 (by decide) (by decide +kernel) ?_
    refine go_adv hX c_219 1 (F2 := (37, [.int x1], [(0, .int x0), (1, .int x1), (2, .int x2), (3, .int x3), (4, .int x4), (5, .int x5)], h)) rfl ?_
    cases hF
    exact go_iret hX c_219 rfl rfl rfl hQ
  rcases mm_ite hF with ⟨hc2, hF⟩ | ⟨hc2, hF⟩
  · refine go_sw hX 38 c_219 rfl hc2 (by decide) (by decide +kernel) ?_
    refine go_adv hX c_219 1 (F2 := (39, [.int x2], [(0, .int x0), (1, .int x1), (2, .int x2), (3, .int x3), (4, .int x4), (5, .int x5)], h)) rfl ?_
    cases hF
    exact go_iret hX c_219 rfl rfl rfl hQ
  rcases mm_ite hF with ⟨hc3, hF⟩ | ⟨hc3, hF⟩
  · refine go_sw hX 40 c_219 rfl hc3 (by decide) (by decide +kernel) ?_
    refine go_adv hX c_219 1 (F2 := (41, [.int x3], [(0, .int x0), (1, .int x1), (2, .int x2), (3, .int x3), (4, .int x4), (5, .int x5)], h)) rfl ?_
    cases hF
    exact go_iret hX c_219 rfl rfl rfl hQ
  rcases mm_ite hF with ⟨hc4, hF⟩ | ⟨hc4, hF⟩
  · refine go_sw hX 42 c_219 rfl hc4 (by decide) (by decide +kernel) ?_
    refine go_adv hX c_219 1 (F2 := (44, [.int x4], [(0, .int x0), (1, .int x1), (2, .int x2), (3, .int x3), (4, .int x4), (5, .int x5)], h)) rfl ?_
    cases hF
    exact go_iret hX c_219 rfl rfl rfl hQ
  rcases mm_ite hF with ⟨hc5, hF⟩ | ⟨hc5, hF⟩
  · refine go_sw hX 45 c_219 rfl hc5 (by decide) (by decide +kernel) ?_
    refine go_adv hX c_219 1 (F2 := (47, [.int x5], [(0, .int x0), (1, .int x1), (2, .int x2), (3, .int x3), (4, .int x4), (5, .int x5)], h)) rfl ?_
    cases hF
    exact go_iret hX c_219 rfl rfl rfl hQ
  refine go_swd hX 5 48 c_219 rfl (by decide) rfl (by decide) (fun i hi => match i, hi with | 0, _ => hc1 | 1, _ => hc2 | 2, _ => hc3 | 3, _ => hc4 | 4, _ => hc5 | j + 5, hj => absurd hj (by omega)) (by decide) ?_
  refine go_adv hX c_219 1 (F2 := (49, [.int (ki 0)], [(0, .int x0), (1, .int x1), (2, .int x2), (3, .int x3), (4, .int x4), (5, .int x5)], h)) rfl ?_
  cases hF
  exact go_iret hX c_219 rfl rfl rfl hQ
theorem c_220 : mm_cd 220 = k_X6_letter := rfl
def F_X6_letter (h : mm_S) (x0 : Int32) (x1 : Int32) : Option Int32 :=
  if x0 = nI 0 then
    (F_X6_inWord h x1 (kb 98) (kb 117) (kb 105) (kb 108) (kb 100)).bind fun v2 =>
    some v2
  else if x0 = nI 1 then
    (F_X6_inWord h x1 (kb 116) (kb 101) (kb 97) (kb 114) (ki 0)).bind fun v5 =>
    some v5
  else if x0 = nI 2 then
    (F_X6_inWord h x1 (kb 104) (kb 97) (kb 108) (kb 118) (kb 101)).bind fun v8 =>
    some v8
  else if x0 = nI 3 then
    (F_X6_inWord h x1 (kb 108) (kb 101) (kb 97) (kb 115) (kb 101)).bind fun v11 =>
    some v11
  else if x0 = nI 4 then
    (F_X6_inWord h x1 (kb 99) (kb 108) (kb 105) (kb 109) (kb 98)).bind fun v14 =>
    some v14
  else if x0 = nI 5 then
    (F_X6_inWord h x1 (kb 108) (kb 101) (kb 118) (kb 121) (ki 0)).bind fun v17 =>
    some v17
  else if x0 = nI 6 then
    (F_X6_inWord h x1 (kb 116) (kb 97) (kb 107) (kb 101) (ki 0)).bind fun v20 =>
    some v20
  else if x0 = nI 7 then
    (F_X6_inWord h x1 (kb 102) (kb 114) (kb 101) (kb 101) (ki 0)).bind fun v23 =>
    some v23
  else
    (F_X6_inWord h x1 (kb 100) (kb 97) (kb 121) (ki 0) (ki 0)).bind fun v25 =>
    some v25
theorem r_X6_letter {X : mm_Cl} (hX : mm_mono X) {d c k : Nat} {Q : mm_Re → Prop} {h : mm_S} {x0 : Int32} {x1 : Int32} {o : Int32} (hF : F_X6_letter h x0 x1 = some o) (hQ : Q (.inl (some (.int o)), h)) : mm_Run X (d + 2) 220 c k [.int x0, .int x1] h Q := by
  unfold F_X6_letter at hF
  refine mm_Run_in (by decide) (by decide) (Nat.le_of_ble_eq_true rfl) ?_
  show mm_Ex (mm_Run X (d + 1)) 220 Q (0, [], [(0, .int x0), (1, .int x1)], h) c k
  refine go_adv hX c_220 1 (F2 := (1, [.int x0], [(0, .int x0), (1, .int x1)], h)) rfl ?_
  rcases mm_ite hF with ⟨hc1, hF⟩ | ⟨hc1, hF⟩
  · refine go_sw hX 48 c_220 rfl hc1 (by decide) (by decide +kernel) ?_
    refine go_adv hX c_220 6 (F2 := (59, [.int (kb 100), .int (kb 108), .int (kb 105), .int (kb 117), .int (kb 98), .int x1], [(0, .int x0), (1, .int x1)], h)) rfl ?_
    obtain ⟨v2, e3, hF⟩ := mm_bind hF
    refine go_cS hX (As := [.int x1, .int (kb 98), .int (kb 117), .int (kb 105), .int (kb 108), .int (kb 100)]) (rv := some (.int v2)) (h2 := h) c_220 rfl (by decide) (Nat.le_of_ble_eq_true rfl) rfl rfl (Nat.le_of_ble_eq_true rfl) (fun Q2 hQ2 => r_X6_inWord hX (d := d) e3 hQ2) ?_
    cases hF
    exact go_iret hX c_220 rfl rfl rfl hQ
  rcases mm_ite hF with ⟨hc4, hF⟩ | ⟨hc4, hF⟩
  · refine go_sw hX 63 c_220 rfl hc4 (by decide) (by decide +kernel) ?_
    refine go_adv hX c_220 6 (F2 := (73, [.int (ki 0), .int (kb 114), .int (kb 97), .int (kb 101), .int (kb 116), .int x1], [(0, .int x0), (1, .int x1)], h)) rfl ?_
    obtain ⟨v5, e6, hF⟩ := mm_bind hF
    refine go_cS hX (As := [.int x1, .int (kb 116), .int (kb 101), .int (kb 97), .int (kb 114), .int (ki 0)]) (rv := some (.int v5)) (h2 := h) c_220 rfl (by decide) (Nat.le_of_ble_eq_true rfl) rfl rfl (Nat.le_of_ble_eq_true rfl) (fun Q2 hQ2 => r_X6_inWord hX (d := d) e6 hQ2) ?_
    cases hF
    exact go_iret hX c_220 rfl rfl rfl hQ
  rcases mm_ite hF with ⟨hc7, hF⟩ | ⟨hc7, hF⟩
  · refine go_sw hX 77 c_220 rfl hc7 (by decide) (by decide +kernel) ?_
    refine go_adv hX c_220 6 (F2 := (88, [.int (kb 101), .int (kb 118), .int (kb 108), .int (kb 97), .int (kb 104), .int x1], [(0, .int x0), (1, .int x1)], h)) rfl ?_
    obtain ⟨v8, e9, hF⟩ := mm_bind hF
    refine go_cS hX (As := [.int x1, .int (kb 104), .int (kb 97), .int (kb 108), .int (kb 118), .int (kb 101)]) (rv := some (.int v8)) (h2 := h) c_220 rfl (by decide) (Nat.le_of_ble_eq_true rfl) rfl rfl (Nat.le_of_ble_eq_true rfl) (fun Q2 hQ2 => r_X6_inWord hX (d := d) e9 hQ2) ?_
    cases hF
    exact go_iret hX c_220 rfl rfl rfl hQ
  rcases mm_ite hF with ⟨hc10, hF⟩ | ⟨hc10, hF⟩
  · refine go_sw hX 92 c_220 rfl hc10 (by decide) (by decide +kernel) ?_
    refine go_adv hX c_220 6 (F2 := (103, [.int (kb 101), .int (kb 115), .int (kb 97), .int (kb 101), .int (kb 108), .int x1], [(0, .int x0), (1, .int x1)], h)) rfl ?_
    obtain ⟨v11, e12, hF⟩ := mm_bind hF
    refine go_cS hX (As := [.int x1, .int (kb 108), .int (kb 101), .int (kb 97), .int (kb 115), .int (kb 101)]) (rv := some (.int v11)) (h2 := h) c_220 rfl (by decide) (Nat.le_of_ble_eq_true rfl) rfl rfl (Nat.le_of_ble_eq_true rfl) (fun Q2 hQ2 => r_X6_inWord hX (d := d) e12 hQ2) ?_
    cases hF
    exact go_iret hX c_220 rfl rfl rfl hQ
  rcases mm_ite hF with ⟨hc13, hF⟩ | ⟨hc13, hF⟩
  · refine go_sw hX 107 c_220 rfl hc13 (by decide) (by decide +kernel) ?_
    refine go_adv hX c_220 6 (F2 := (118, [.int (kb 98), .int (kb 109), .int (kb 105), .int (kb 108), .int (kb 99), .int x1], [(0, .int x0), (1, .int x1)], h)) rfl ?_
    obtain ⟨v14, e15, hF⟩ := mm_bind hF
    refine go_cS hX (As := [.int x1, .int (kb 99), .int (kb 108), .int (kb 105), .int (kb 109), .int (kb 98)]) (rv := some (.int v14)) (h2 := h) c_220 rfl (by decide) (Nat.le_of_ble_eq_true rfl) rfl rfl (Nat.le_of_ble_eq_true rfl) (fun Q2 hQ2 => r_X6_inWord hX (d := d) e15 hQ2) ?_
    cases hF
    exact go_iret hX c_220 rfl rfl rfl hQ
  rcases mm_ite hF with ⟨hc16, hF⟩ | ⟨hc16, hF⟩
  · refine go_sw hX 122 c_220 rfl hc16 (by decide) (by decide +kernel) ?_
    refine go_adv hX c_220 6 (F2 := (132, [.int (ki 0), .int (kb 121), .int (kb 118), .int (kb 101), .int (kb 108), .int x1], [(0, .int x0), (1, .int x1)], h)) rfl ?_
    obtain ⟨v17, e18, hF⟩ := mm_bind hF
    refine go_cS hX (As := [.int x1, .int (kb 108), .int (kb 101), .int (kb 118), .int (kb 121), .int (ki 0)]) (rv := some (.int v17)) (h2 := h) c_220 rfl (by decide) (Nat.le_of_ble_eq_true rfl) rfl rfl (Nat.le_of_ble_eq_true rfl) (fun Q2 hQ2 => r_X6_inWord hX (d := d) e18 hQ2) ?_
    cases hF
    exact go_iret hX c_220 rfl rfl rfl hQ
  rcases mm_ite hF with ⟨hc19, hF⟩ | ⟨hc19, hF⟩
  · refine go_sw hX 136 c_220 rfl hc19 (by decide) (by decide +kernel) ?_
    refine go_adv hX c_220 6 (F2 := (146, [.int (ki 0), .int (kb 101), .int (kb 107), .int (kb 97), .int (kb 116), .int x1], [(0, .int x0), (1, .int x1)], h)) rfl ?_
    obtain ⟨v20, e21, hF⟩ := mm_bind hF
    refine go_cS hX (As := [.int x1, .int (kb 116), .int (kb 97), .int (kb 107), .int (kb 101), .int (ki 0)]) (rv := some (.int v20)) (h2 := h) c_220 rfl (by decide) (Nat.le_of_ble_eq_true rfl) rfl rfl (Nat.le_of_ble_eq_true rfl) (fun Q2 hQ2 => r_X6_inWord hX (d := d) e21 hQ2) ?_
    cases hF
    exact go_iret hX c_220 rfl rfl rfl hQ
  rcases mm_ite hF with ⟨hc22, hF⟩ | ⟨hc22, hF⟩
  · refine go_sw hX 150 c_220 rfl hc22 (by decide) (by decide +kernel) ?_
    refine go_adv hX c_220 6 (F2 := (160, [.int (ki 0), .int (kb 101), .int (kb 101), .int (kb 114), .int (kb 102), .int x1], [(0, .int x0), (1, .int x1)], h)) rfl ?_
    obtain ⟨v23, e24, hF⟩ := mm_bind hF
    refine go_cS hX (As := [.int x1, .int (kb 102), .int (kb 114), .int (kb 101), .int (kb 101), .int (ki 0)]) (rv := some (.int v23)) (h2 := h) c_220 rfl (by decide) (Nat.le_of_ble_eq_true rfl) rfl rfl (Nat.le_of_ble_eq_true rfl) (fun Q2 hQ2 => r_X6_inWord hX (d := d) e24 hQ2) ?_
    cases hF
    exact go_iret hX c_220 rfl rfl rfl hQ
  refine go_swd hX 8 164 c_220 rfl (by decide) rfl (by decide) (fun i hi => match i, hi with | 0, _ => hc1 | 1, _ => hc4 | 2, _ => hc7 | 3, _ => hc10 | 4, _ => hc13 | 5, _ => hc16 | 6, _ => hc19 | 7, _ => hc22 | j + 8, hj => absurd hj (by omega)) (by decide) ?_
  refine go_adv hX c_220 6 (F2 := (173, [.int (ki 0), .int (ki 0), .int (kb 121), .int (kb 97), .int (kb 100), .int x1], [(0, .int x0), (1, .int x1)], h)) rfl ?_
  obtain ⟨v25, e26, hF⟩ := mm_bind hF
  refine go_cS hX (As := [.int x1, .int (kb 100), .int (kb 97), .int (kb 121), .int (ki 0), .int (ki 0)]) (rv := some (.int v25)) (h2 := h) c_220 rfl (by decide) (Nat.le_of_ble_eq_true rfl) rfl rfl (Nat.le_of_ble_eq_true rfl) (fun Q2 hQ2 => r_X6_inWord hX (d := d) e26 hQ2) ?_
  cases hF
  exact go_iret hX c_220 rfl rfl rfl hQ
theorem c_221 : mm_cd 221 = k_X6_kindHere := rfl
def F_X6_kindHere_L12 : Nat → Nat → Int32 → Int32 → Int32 → mm_S → Option (Int32 × mm_S)
  | 0, _, _, _, _, _ => none
  | n + 1, x0, x1, x2, x3, h =>
    (F_X6_letter h x2 x3).bind fun v2 =>
    if v2 ≤ 0 then
      some ((x3, h))
    else
      (fx_gI h x0 6 21).bind fun v5 =>
      (fx_gI h x0 6 20).bind fun v7 =>
      if v7 ≤ (v5 + x3) then
        some ((x3, h))
      else
        (fx_gR h x0 6 16).bind fun v10 =>
        (fx_gI h x0 6 21).bind fun v12 =>
        (fx_aI h v10 (v12 + x3)).bind fun v14 =>
        (F_X6_letter h x2 x3).bind fun v16 =>
        if v14 ≠ v16 then
          some ((x3, h))
        else
          F_X6_kindHere_L12 n x0 x1 x2 (x3 + ki 1) h
def F_X6_kindHere_L4 : Nat → Nat → Int32 → Int32 → mm_S → Option ((Int32 × mm_S) ⊕ (Int32 × mm_S))
  | 0, _, _, _, _ => none
  | n + 1, x0, x1, x2, h =>
    if (kb 9) ≤ x2 then
      some (.inr ((x1, h)))
    else
      (F_X6_kindHere_L12 1000 x0 x1 x2 (ki 0) h).bind fun o19 =>
      (F_X6_letter o19.2 x2 o19.1).bind fun v21 =>
      if v21 ≠ 0 then
        if o19.1 ≤ x1 then
          F_X6_kindHere_L4 n x0 x1 (x2 + ki 1) o19.2
        else
          F_X6_kindHere_L4 n x0 o19.1 (x2 + ki 1) o19.2
      else
        (fx_gI o19.2 x0 6 21).bind fun v25 =>
        (fx_pV o19.2 x0 6 21 (.int (v25 + o19.1))).bind fun h27 =>
        some (.inl (x2, h27))
def F_X6_kindHere (h : mm_S) (x0 : Nat) : Option (Int32 × mm_S) :=
  (F_X6_kindHere_L4 1000 x0 (ki 0) (ki 0) h).bind fun o29 => match o29 with
    | .inl o29r => some o29r
    | .inr o29e =>
      (fx_gI o29e.2 x0 6 21).bind fun v31 =>
      (fx_pV o29e.2 x0 6 21 (.int (v31 + o29e.1))).bind fun h33 =>
      (fx_pV h33 x0 6 23 (.int (ki 1))).bind fun h35 =>
      some (ki 0, h35)
theorem r_X6_kindHere_L12 {X : mm_Cl} (hX : mm_mono X) {d c k : Nat} {Q : mm_Re → Prop} : ∀ (n : Nat) (x0 : Nat) (x1 : Int32) (x2 : Int32) (x3 : Int32) (h : mm_S) (o : (Int32 × mm_S)), F_X6_kindHere_L12 n x0 x1 x2 x3 h = some o → (mm_Ex (mm_Run X (d + 2)) 221 Q (58, [], [(0, .ref x0), (1, .int x1), (2, .int x2), (3, .int o.1)], o.2) c k) → mm_Ex (mm_Run X (d + 2)) 221 Q (12, [], [(0, .ref x0), (1, .int x1), (2, .int x2), (3, .int x3)], h) c k := by
  intro n
  induction n with
  | zero => intro x0 x1 x2 x3 h o hF; cases hF
  | succ n ih =>
    intro x0 x1 x2 x3 h o hF hE
    unfold F_X6_kindHere_L12 at hF
    refine go_adv hX c_221 2 (F2 := (14, [.int x3, .int x2], [(0, .ref x0), (1, .int x1), (2, .int x2), (3, .int x3)], h)) rfl ?_
    obtain ⟨v2, e3, hF⟩ := mm_bind hF
    refine go_cS hX (As := [.int x2, .int x3]) (rv := some (.int v2)) (h2 := h) c_221 rfl (by decide) (Nat.le_of_ble_eq_true rfl) rfl rfl (Nat.le_of_ble_eq_true rfl) (fun Q2 hQ2 => r_X6_letter hX (d := d) e3 hQ2) ?_
    rcases mm_ite hF with ⟨hc4, hF⟩ | ⟨hc4, hF⟩
    · refine go_zt hX 58 c_221 rfl rfl hc4 ?_
      cases hF
      refine go_ls [(0, .ref x0), (1, .int x1), (2, .int x2), (3, .int x3)] ⟨rfl, ⟨rfl, ⟨rfl, ⟨rfl, trivial⟩⟩⟩⟩ ?_
      exact hE
    · refine go_zf hX c_221 rfl (by decide) hc4 ?_
      refine go_adv hX c_221 1 (F2 := (21, [.ref x0], [(0, .ref x0), (1, .int x1), (2, .int x2), (3, .int x3)], h)) rfl ?_
      obtain ⟨v5, e6, hF⟩ := mm_bind hF
      refine go_gI hX c_221 rfl e6 ?_
      refine go_adv hX c_221 3 (F2 := (27, [.ref x0, .int (v5 + x3)], [(0, .ref x0), (1, .int x1), (2, .int x2), (3, .int x3)], h)) rfl ?_
      obtain ⟨v7, e8, hF⟩ := mm_bind hF
      refine go_gI hX c_221 rfl e8 ?_
      rcases mm_ite hF with ⟨hc9, hF⟩ | ⟨hc9, hF⟩
      · refine go_ct hX 58 c_221 rfl rfl hc9 ?_
        cases hF
        refine go_ls [(0, .ref x0), (1, .int x1), (2, .int x2), (3, .int x3)] ⟨rfl, ⟨rfl, ⟨rfl, ⟨rfl, trivial⟩⟩⟩⟩ ?_
        exact hE
      · refine go_cf hX c_221 rfl (by decide) hc9 ?_
        refine go_adv hX c_221 1 (F2 := (34, [.ref x0], [(0, .ref x0), (1, .int x1), (2, .int x2), (3, .int x3)], h)) rfl ?_
        obtain ⟨v10, e11, hF⟩ := mm_bind hF
        refine go_gR hX c_221 rfl e11 ?_
        refine go_adv hX c_221 1 (F2 := (38, [.ref x0, .ref v10], [(0, .ref x0), (1, .int x1), (2, .int x2), (3, .int x3)], h)) rfl ?_
        obtain ⟨v12, e13, hF⟩ := mm_bind hF
        refine go_gI hX c_221 rfl e13 ?_
        refine go_adv hX c_221 2 (F2 := (43, [.int (v12 + x3), .ref v10], [(0, .ref x0), (1, .int x1), (2, .int x2), (3, .int x3)], h)) rfl ?_
        obtain ⟨v14, e15, hF⟩ := mm_bind hF
        refine go_aI hX c_221 rfl e15 ?_
        refine go_adv hX c_221 2 (F2 := (46, [.int x3, .int x2, .int v14], [(0, .ref x0), (1, .int x1), (2, .int x2), (3, .int x3)], h)) rfl ?_
        obtain ⟨v16, e17, hF⟩ := mm_bind hF
        refine go_cS hX (As := [.int x2, .int x3]) (rv := some (.int v16)) (h2 := h) c_221 rfl (by decide) (Nat.le_of_ble_eq_true rfl) rfl rfl (Nat.le_of_ble_eq_true rfl) (fun Q2 hQ2 => r_X6_letter hX (d := d) e17 hQ2) ?_
        rcases mm_ite hF with ⟨hc18, hF⟩ | ⟨hc18, hF⟩
        · refine go_ct hX 58 c_221 rfl rfl hc18 ?_
          cases hF
          refine go_ls [(0, .ref x0), (1, .int x1), (2, .int x2), (3, .int x3)] ⟨rfl, ⟨rfl, ⟨rfl, ⟨rfl, trivial⟩⟩⟩⟩ ?_
          exact hE
        · refine go_cf hX c_221 rfl (by decide) hc18 ?_
          refine go_adv hX c_221 1 (F2 := (55, [], [(3, .int (x3 + ki 1)), (0, .ref x0), (1, .int x1), (2, .int x2)], h)) rfl ?_
          refine go_to hX 12 c_221 rfl rfl ?_
          refine go_ls [(0, .ref x0), (1, .int x1), (2, .int x2), (3, .int (x3 + ki 1))] ⟨rfl, ⟨rfl, ⟨rfl, ⟨rfl, trivial⟩⟩⟩⟩ ?_
          exact ih x0 x1 x2 (x3 + ki 1) h _ hF hE
theorem r_X6_kindHere_L4 {X : mm_Cl} (hX : mm_mono X) {d c k : Nat} {Q : mm_Re → Prop} : ∀ (n : Nat) (x0 : Nat) (x1 : Int32) (x2 : Int32) (h : mm_S) (o : ((Int32 × mm_S) ⊕ (Int32 × mm_S))), F_X6_kindHere_L4 n x0 x1 x2 h = some o → (∀ r, o = .inl r → Q (.inl (some (.int r.1)), r.2)) → (∀ e, o = .inr e → mm_Ex (mm_Run X (d + 2)) 221 Q (95, [], [(0, .ref x0), (1, .int e.1)], e.2) c k) → mm_Ex (mm_Run X (d + 2)) 221 Q (4, [], [(0, .ref x0), (1, .int x1), (2, .int x2)], h) c k := by
  intro n
  induction n with
  | zero => intro x0 x1 x2 h o hF; cases hF
  | succ n ih =>
    intro x0 x1 x2 h o hF hR hE
    unfold F_X6_kindHere_L4 at hF
    refine go_adv hX c_221 2 (F2 := (7, [.int (kb 9), .int x2], [(0, .ref x0), (1, .int x1), (2, .int x2)], h)) rfl ?_
    rcases mm_ite hF with ⟨hc1, hF⟩ | ⟨hc1, hF⟩
    · refine go_ct hX 95 c_221 rfl rfl hc1 ?_
      cases hF
      refine go_ls [(0, .ref x0), (1, .int x1)] ⟨rfl, ⟨rfl, trivial⟩⟩ ?_
      exact hE _ rfl
    · refine go_cf hX c_221 rfl (by decide) hc1 ?_
      refine go_adv hX c_221 2 (F2 := (12, [], [(3, .int (ki 0)), (0, .ref x0), (1, .int x1), (2, .int x2)], h)) rfl ?_
      refine go_ls [(0, .ref x0), (1, .int x1), (2, .int x2), (3, .int (ki 0))] ⟨rfl, ⟨rfl, ⟨rfl, ⟨rfl, trivial⟩⟩⟩⟩ ?_
      obtain ⟨o19, e20, hF⟩ := mm_bind hF
      refine r_X6_kindHere_L12 hX 1000 x0 x1 x2 (ki 0) h o19 e20 ?_
      refine go_adv hX c_221 2 (F2 := (60, [.int o19.1, .int x2], [(0, .ref x0), (1, .int x1), (2, .int x2), (3, .int o19.1)], o19.2)) rfl ?_
      obtain ⟨v21, e22, hF⟩ := mm_bind hF
      refine go_cS hX (As := [.int x2, .int o19.1]) (rv := some (.int v21)) (h2 := o19.2) c_221 rfl (by decide) (Nat.le_of_ble_eq_true rfl) rfl rfl (Nat.le_of_ble_eq_true rfl) (fun Q2 hQ2 => r_X6_letter hX (d := d) e22 hQ2) ?_
      rcases mm_ite hF with ⟨hc23, hF⟩ | ⟨hc23, hF⟩
      · refine go_zt hX 78 c_221 rfl rfl hc23 ?_
        refine go_adv hX c_221 2 (F2 := (80, [.int x1, .int o19.1], [(0, .ref x0), (1, .int x1), (2, .int x2), (3, .int o19.1)], o19.2)) rfl ?_
        rcases mm_ite hF with ⟨hc24, hF⟩ | ⟨hc24, hF⟩
        · refine go_ct hX 87 c_221 rfl rfl hc24 ?_
          refine go_adv hX c_221 3 (F2 := (92, [], [(2, .int (x2 + ki 1)), (1, .int x1), (0, .ref x0), (3, .int o19.1)], o19.2)) rfl ?_
          refine go_to hX 4 c_221 rfl rfl ?_
          refine go_ls [(0, .ref x0), (1, .int x1), (2, .int (x2 + ki 1))] ⟨rfl, ⟨rfl, ⟨rfl, trivial⟩⟩⟩ ?_
          exact ih x0 x1 (x2 + ki 1) o19.2 _ hF hR hE
        · refine go_cf hX c_221 rfl (by decide) hc24 ?_
          refine go_adv hX c_221 1 (F2 := (84, [.int o19.1], [(0, .ref x0), (1, .int x1), (2, .int x2), (3, .int o19.1)], o19.2)) rfl ?_
          refine go_to hX 88 c_221 rfl rfl ?_
          refine go_adv hX c_221 2 (F2 := (92, [], [(2, .int (x2 + ki 1)), (1, .int o19.1), (0, .ref x0), (3, .int o19.1)], o19.2)) rfl ?_
          refine go_to hX 4 c_221 rfl rfl ?_
          refine go_ls [(0, .ref x0), (1, .int o19.1), (2, .int (x2 + ki 1))] ⟨rfl, ⟨rfl, ⟨rfl, trivial⟩⟩⟩ ?_
          exact ih x0 o19.1 (x2 + ki 1) o19.2 _ hF hR hE
      · refine go_zf hX c_221 rfl (by decide) hc23 ?_
        refine go_adv hX c_221 1 (F2 := (67, [.ref x0], [(0, .ref x0), (1, .int x1), (2, .int x2), (3, .int o19.1)], o19.2)) rfl ?_
        refine go_p hX c_221 rfl rfl rfl ?_
        obtain ⟨v25, e26, hF⟩ := mm_bind hF
        refine go_gI hX c_221 rfl e26 ?_
        refine go_adv hX c_221 2 (F2 := (73, [.int (v25 + o19.1), .ref x0], [(0, .ref x0), (1, .int x1), (2, .int x2), (3, .int o19.1)], o19.2)) rfl ?_
        obtain ⟨h27, e28, hF⟩ := mm_bind hF
        refine go_pV hX c_221 rfl e28 ?_
        refine go_adv hX c_221 1 (F2 := (77, [.int x2], [(0, .ref x0), (1, .int x1), (2, .int x2), (3, .int o19.1)], h27)) rfl ?_
        cases hF
        have hQ := hR _ rfl
        exact go_iret hX c_221 rfl rfl rfl hQ
theorem r_X6_kindHere {X : mm_Cl} (hX : mm_mono X) {d c k : Nat} {Q : mm_Re → Prop} {h : mm_S} {x0 : Nat} {o : (Int32 × mm_S)} (hF : F_X6_kindHere h x0 = some o) (hQ : Q (.inl (some (.int o.1)), o.2)) : mm_Run X (d + 3) 221 c k [.ref x0] h Q := by
  unfold F_X6_kindHere at hF
  refine mm_Run_in (by decide) (by decide) (Nat.le_of_ble_eq_true rfl) ?_
  show mm_Ex (mm_Run X (d + 2)) 221 Q (0, [], [(0, .ref x0)], h) c k
  refine go_adv hX c_221 4 (F2 := (4, [], [(2, .int (ki 0)), (1, .int (ki 0)), (0, .ref x0)], h)) rfl ?_
  refine go_ls [(0, .ref x0), (1, .int (ki 0)), (2, .int (ki 0))] ⟨rfl, ⟨rfl, ⟨rfl, trivial⟩⟩⟩ ?_
  obtain ⟨o29, e30, hF⟩ := mm_bind hF
  refine r_X6_kindHere_L4 hX 1000 x0 (ki 0) (ki 0) h o29 e30 ?_ ?_
  · intro o29r hr
    subst hr
    dsimp only at hF
    cases hF
    exact hQ
  · intro o29e he
    subst he
    dsimp only at hF
    refine go_adv hX c_221 1 (F2 := (96, [.ref x0], [(0, .ref x0), (1, .int o29e.1)], o29e.2)) rfl ?_
    refine go_p hX c_221 rfl rfl rfl ?_
    obtain ⟨v31, e32, hF⟩ := mm_bind hF
    refine go_gI hX c_221 rfl e32 ?_
    refine go_adv hX c_221 2 (F2 := (102, [.int (v31 + o29e.1), .ref x0], [(0, .ref x0), (1, .int o29e.1)], o29e.2)) rfl ?_
    obtain ⟨h33, e34, hF⟩ := mm_bind hF
    refine go_pV hX c_221 rfl e34 ?_
    refine go_adv hX c_221 2 (F2 := (107, [.int (ki 1), .ref x0], [(0, .ref x0), (1, .int o29e.1)], h33)) rfl ?_
    obtain ⟨h35, e36, hF⟩ := mm_bind hF
    refine go_pV hX c_221 rfl e36 ?_
    refine go_adv hX c_221 1 (F2 := (111, [.int (ki 0)], [(0, .ref x0), (1, .int o29e.1)], h35)) rfl ?_
    cases hF
    exact go_iret hX c_221 rfl rfl rfl hQ
theorem c_222 : mm_cd 222 = k_X6_order := rfl
def F_X6_order_B96 (h : mm_S) (x0 : Nat) (x1 : Int32) (x2 : Int32) (x3 : Int32) (x4 : Int32) : Option mm_S :=
  (fx_gI h x0 6 23).bind fun v14 =>
  if v14 = 0 then
    (fx_gR h x0 6 17).bind fun v17 =>
    (fx_gI h x0 6 22).bind fun v19 =>
    (fx_sI h v17 v19 x1).bind fun h21 =>
    (fx_gR h21 x0 6 18).bind fun v23 =>
    (fx_gI h21 x0 6 22).bind fun v25 =>
    (fx_sI h21 v23 ((ki 3) * v25) x2).bind fun h27 =>
    (fx_gR h27 x0 6 18).bind fun v29 =>
    (fx_gI h27 x0 6 22).bind fun v31 =>
    (fx_sI h27 v29 (((ki 3) * v31) + (ki 1)) x3).bind fun h33 =>
    (fx_gR h33 x0 6 18).bind fun v35 =>
    (fx_gI h33 x0 6 22).bind fun v37 =>
    (fx_sI h33 v35 (((ki 3) * v37) + (ki 2)) x4).bind fun h39 =>
    (fx_gI h39 x0 6 22).bind fun v41 =>
    (fx_pV h39 x0 6 22 (.int (v41 + (ki 1)))).bind fun h43 =>
    some h43
  else
    some h
def F_X6_order_B80 (h : mm_S) (x0 : Nat) (x1 : Int32) (x2 : Int32) (x3 : Int32) (x4 : Int32) : Option mm_S :=
  if x1 ≠ (ki 3) then
    F_X6_order_B96 h x0 x1 x2 x3 x4
  else
    (fx_is h x0 6).bind fun _ =>
    (F_X6_blank h x0).bind fun v46 =>
    (fx_is v46 x0 6).bind fun _ =>
    (F_X6_digits v46 x0 (ki 1)).bind fun v49 =>
    F_X6_order_B96 v49.2 x0 x1 x2 x3 v49.1
def F_X6_order_B70 (h : mm_S) (x0 : Nat) (x1 : Int32) (x2 : Int32) (x4 : Int32) : Option mm_S :=
  (fx_is h x0 6).bind fun _ =>
  (F_X6_blank h x0).bind fun v8 =>
  (fx_is v8 x0 6).bind fun _ =>
  (F_X6_digits v8 x0 (ki 1)).bind fun v11 =>
  F_X6_order_B80 v11.2 x0 x1 x2 v11.1 x4
def F_X6_order_B49 (h : mm_S) (x0 : Nat) (x1 : Int32) (x2 : Int32) (x3 : Int32) (x4 : Int32) : Option mm_S :=
  if x1 = (ki 3) then
    F_X6_order_B70 h x0 x1 x2 x4
  else
    if x1 = (ki 4) then
      F_X6_order_B70 h x0 x1 x2 x4
    else
      if x1 = (ki 5) then
        F_X6_order_B70 h x0 x1 x2 x4
      else
        if x1 ≠ (kb 7) then
          F_X6_order_B80 h x0 x1 x2 x3 x4
        else
          F_X6_order_B70 h x0 x1 x2 x4
def F_X6_order_B28 (h : mm_S) (x0 : Nat) (x1 : Int32) (x2 : Int32) (x3 : Int32) (x4 : Int32) : Option mm_S :=
  if x1 ≠ 0 then
    F_X6_order_B49 h x0 x1 x2 x3 x4
  else
    (fx_is h x0 6).bind fun _ =>
    (F_X6_digits h x0 (ki 1)).bind fun v55 =>
    (fx_is v55.2 x0 6).bind fun _ =>
    (F_X6_blank v55.2 x0).bind fun v58 =>
    (fx_is v58 x0 6).bind fun _ =>
    (F_X6_digits v58 x0 (ki 2)).bind fun v61 =>
    F_X6_order_B49 v61.2 x0 x1 x2 v55.1 v61.1
def F_X6_order (h : mm_S) (x0 : Nat) : Option mm_S :=
  (fx_is h x0 6).bind fun _ =>
  (F_X6_kindHere h x0).bind fun v2 =>
  if (kb 8) ≤ v2.1 then
    F_X6_order_B28 v2.2 x0 v2.1 (ki 0) (ki 0) (ki 0)
  else
    (fx_is v2.2 x0 6).bind fun _ =>
    (F_X6_blank v2.2 x0).bind fun v64 =>
    (fx_is v64 x0 6).bind fun _ =>
    (F_X6_digits v64 x0 (ki 1)).bind fun v67 =>
    F_X6_order_B28 v67.2 x0 v2.1 v67.1 (ki 0) (ki 0)
theorem r_X6_order_B96 {X : mm_Cl} (hX : mm_mono X) {d c k : Nat} {Q : mm_Re → Prop} {h : mm_S} {x0 : Nat} {x1 : Int32} {x2 : Int32} {x3 : Int32} {x4 : Int32} {o : mm_S} (hF : F_X6_order_B96 h x0 x1 x2 x3 x4 = some o) (hQ : Q (.inl none, o)) : mm_Ex (mm_Run X (d + 3)) 222 Q (96, [], [(0, .ref x0), (1, .int x1), (2, .int x2), (3, .int x3), (4, .int x4)], h) c k := by
  unfold F_X6_order_B96 at hF
  refine go_adv hX c_222 1 (F2 := (97, [.ref x0], [(0, .ref x0), (1, .int x1), (2, .int x2), (3, .int x3), (4, .int x4)], h)) rfl ?_
  obtain ⟨v14, e15, hF⟩ := mm_bind hF
  refine go_gI hX c_222 rfl e15 ?_
  rcases mm_ite hF with ⟨hc16, hF⟩ | ⟨hc16, hF⟩
  · refine go_zt hX 104 c_222 rfl rfl hc16 ?_
    refine go_adv hX c_222 1 (F2 := (105, [.ref x0], [(0, .ref x0), (1, .int x1), (2, .int x2), (3, .int x3), (4, .int x4)], h)) rfl ?_
    obtain ⟨v17, e18, hF⟩ := mm_bind hF
    refine go_gR hX c_222 rfl e18 ?_
    refine go_adv hX c_222 1 (F2 := (109, [.ref x0, .ref v17], [(0, .ref x0), (1, .int x1), (2, .int x2), (3, .int x3), (4, .int x4)], h)) rfl ?_
    obtain ⟨v19, e20, hF⟩ := mm_bind hF
    refine go_gI hX c_222 rfl e20 ?_
    refine go_adv hX c_222 1 (F2 := (113, [.int x1, .int v19, .ref v17], [(0, .ref x0), (1, .int x1), (2, .int x2), (3, .int x3), (4, .int x4)], h)) rfl ?_
    obtain ⟨h21, e22, hF⟩ := mm_bind hF
    refine go_sI hX c_222 rfl e22 ?_
    refine go_adv hX c_222 1 (F2 := (115, [.ref x0], [(0, .ref x0), (1, .int x1), (2, .int x2), (3, .int x3), (4, .int x4)], h21)) rfl ?_
    obtain ⟨v23, e24, hF⟩ := mm_bind hF
    refine go_gR hX c_222 rfl e24 ?_
    refine go_adv hX c_222 2 (F2 := (120, [.ref x0, .int (ki 3), .ref v23], [(0, .ref x0), (1, .int x1), (2, .int x2), (3, .int x3), (4, .int x4)], h21)) rfl ?_
    obtain ⟨v25, e26, hF⟩ := mm_bind hF
    refine go_gI hX c_222 rfl e26 ?_
    refine go_adv hX c_222 2 (F2 := (125, [.int x2, .int ((ki 3) * v25), .ref v23], [(0, .ref x0), (1, .int x1), (2, .int x2), (3, .int x3), (4, .int x4)], h21)) rfl ?_
    obtain ⟨h27, e28, hF⟩ := mm_bind hF
    refine go_sI hX c_222 rfl e28 ?_
    refine go_adv hX c_222 1 (F2 := (127, [.ref x0], [(0, .ref x0), (1, .int x1), (2, .int x2), (3, .int x3), (4, .int x4)], h27)) rfl ?_
    obtain ⟨v29, e30, hF⟩ := mm_bind hF
    refine go_gR hX c_222 rfl e30 ?_
    refine go_adv hX c_222 2 (F2 := (132, [.ref x0, .int (ki 3), .ref v29], [(0, .ref x0), (1, .int x1), (2, .int x2), (3, .int x3), (4, .int x4)], h27)) rfl ?_
    obtain ⟨v31, e32, hF⟩ := mm_bind hF
    refine go_gI hX c_222 rfl e32 ?_
    refine go_adv hX c_222 4 (F2 := (139, [.int x3, .int (((ki 3) * v31) + (ki 1)), .ref v29], [(0, .ref x0), (1, .int x1), (2, .int x2), (3, .int x3), (4, .int x4)], h27)) rfl ?_
    obtain ⟨h33, e34, hF⟩ := mm_bind hF
    refine go_sI hX c_222 rfl e34 ?_
    refine go_adv hX c_222 1 (F2 := (141, [.ref x0], [(0, .ref x0), (1, .int x1), (2, .int x2), (3, .int x3), (4, .int x4)], h33)) rfl ?_
    obtain ⟨v35, e36, hF⟩ := mm_bind hF
    refine go_gR hX c_222 rfl e36 ?_
    refine go_adv hX c_222 2 (F2 := (146, [.ref x0, .int (ki 3), .ref v35], [(0, .ref x0), (1, .int x1), (2, .int x2), (3, .int x3), (4, .int x4)], h33)) rfl ?_
    obtain ⟨v37, e38, hF⟩ := mm_bind hF
    refine go_gI hX c_222 rfl e38 ?_
    refine go_adv hX c_222 4 (F2 := (154, [.int x4, .int (((ki 3) * v37) + (ki 2)), .ref v35], [(0, .ref x0), (1, .int x1), (2, .int x2), (3, .int x3), (4, .int x4)], h33)) rfl ?_
    obtain ⟨h39, e40, hF⟩ := mm_bind hF
    refine go_sI hX c_222 rfl e40 ?_
    refine go_adv hX c_222 1 (F2 := (156, [.ref x0], [(0, .ref x0), (1, .int x1), (2, .int x2), (3, .int x3), (4, .int x4)], h39)) rfl ?_
    refine go_p hX c_222 rfl rfl rfl ?_
    obtain ⟨v41, e42, hF⟩ := mm_bind hF
    refine go_gI hX c_222 rfl e42 ?_
    refine go_adv hX c_222 2 (F2 := (162, [.int (v41 + (ki 1)), .ref x0], [(0, .ref x0), (1, .int x1), (2, .int x2), (3, .int x3), (4, .int x4)], h39)) rfl ?_
    obtain ⟨h43, e44, hF⟩ := mm_bind hF
    refine go_pV hX c_222 rfl e44 ?_
    cases hF
    exact go_ret hX c_222 rfl rfl hQ
  · refine go_zf hX c_222 rfl (by decide) hc16 ?_
    cases hF
    exact go_ret hX c_222 rfl rfl hQ
theorem r_X6_order_B80 {X : mm_Cl} (hX : mm_mono X) {d c k : Nat} {Q : mm_Re → Prop} {h : mm_S} {x0 : Nat} {x1 : Int32} {x2 : Int32} {x3 : Int32} {x4 : Int32} {o : mm_S} (hF : F_X6_order_B80 h x0 x1 x2 x3 x4 = some o) (hQ : Q (.inl none, o)) : mm_Ex (mm_Run X (d + 3)) 222 Q (80, [], [(0, .ref x0), (1, .int x1), (2, .int x2), (3, .int x3), (4, .int x4)], h) c k := by
  unfold F_X6_order_B80 at hF
  refine go_adv hX c_222 2 (F2 := (82, [.int (ki 3), .int x1], [(0, .ref x0), (1, .int x1), (2, .int x2), (3, .int x3), (4, .int x4)], h)) rfl ?_
  rcases mm_ite hF with ⟨hc13, hF⟩ | ⟨hc13, hF⟩
  · refine go_ct hX 96 c_222 rfl rfl hc13 ?_
    refine go_ls [(0, .ref x0), (1, .int x1), (2, .int x2), (3, .int x3), (4, .int x4)] ⟨rfl, ⟨rfl, ⟨rfl, ⟨rfl, ⟨rfl, trivial⟩⟩⟩⟩⟩ ?_
    exact r_X6_order_B96 hX hF hQ
  · refine go_cf hX c_222 rfl (by decide) hc13 ?_
    refine go_adv hX c_222 1 (F2 := (86, [.ref x0], [(0, .ref x0), (1, .int x1), (2, .int x2), (3, .int x3), (4, .int x4)], h)) rfl ?_
    obtain ⟨_, e45, hF⟩ := mm_bind hF
    obtain ⟨v46, e47, hF⟩ := mm_bind hF
    refine go_cV hX (As := []) (rv := none) (h2 := v46) (ci := 6) c_222 rfl (Nat.le_of_ble_eq_true rfl) rfl rfl e45 (by decide) (Nat.le_of_ble_eq_true rfl) (fun Q2 hQ2 => r_X6_blank hX (d := (d + 1)) e47 hQ2) ?_
    refine go_adv hX c_222 2 (F2 := (91, [.int (ki 1), .ref x0], [(0, .ref x0), (1, .int x1), (2, .int x2), (3, .int x3), (4, .int x4)], v46)) rfl ?_
    obtain ⟨_, e48, hF⟩ := mm_bind hF
    obtain ⟨v49, e50, hF⟩ := mm_bind hF
    refine go_cV hX (As := [.int (ki 1)]) (rv := some (.int v49.1)) (h2 := v49.2) (ci := 6) c_222 rfl (Nat.le_of_ble_eq_true rfl) rfl rfl e48 (by decide) (Nat.le_of_ble_eq_true rfl) (fun Q2 hQ2 => r_X6_digits hX (d := d) e50 hQ2) ?_
    refine go_adv hX c_222 1 (F2 := (96, [], [(4, .int v49.1), (0, .ref x0), (1, .int x1), (2, .int x2), (3, .int x3)], v49.2)) rfl ?_
    refine go_ls [(0, .ref x0), (1, .int x1), (2, .int x2), (3, .int x3), (4, .int v49.1)] ⟨rfl, ⟨rfl, ⟨rfl, ⟨rfl, ⟨rfl, trivial⟩⟩⟩⟩⟩ ?_
    exact r_X6_order_B96 hX hF hQ
theorem r_X6_order_B70 {X : mm_Cl} (hX : mm_mono X) {d c k : Nat} {Q : mm_Re → Prop} {h : mm_S} {x0 : Nat} {x1 : Int32} {x2 : Int32} {x4 : Int32} {o : mm_S} (hF : F_X6_order_B70 h x0 x1 x2 x4 = some o) (hQ : Q (.inl none, o)) : mm_Ex (mm_Run X (d + 3)) 222 Q (70, [], [(0, .ref x0), (1, .int x1), (2, .int x2), (4, .int x4)], h) c k := by
  unfold F_X6_order_B70 at hF
  refine go_adv hX c_222 1 (F2 := (71, [.ref x0], [(0, .ref x0), (1, .int x1), (2, .int x2), (4, .int x4)], h)) rfl ?_
  obtain ⟨_, e7, hF⟩ := mm_bind hF
  obtain ⟨v8, e9, hF⟩ := mm_bind hF
  refine go_cV hX (As := []) (rv := none) (h2 := v8) (ci := 6) c_222 rfl (Nat.le_of_ble_eq_true rfl) rfl rfl e7 (by decide) (Nat.le_of_ble_eq_true rfl) (fun Q2 hQ2 => r_X6_blank hX (d := (d + 1)) e9 hQ2) ?_
  refine go_adv hX c_222 2 (F2 := (76, [.int (ki 1), .ref x0], [(0, .ref x0), (1, .int x1), (2, .int x2), (4, .int x4)], v8)) rfl ?_
  obtain ⟨_, e10, hF⟩ := mm_bind hF
  obtain ⟨v11, e12, hF⟩ := mm_bind hF
  refine go_cV hX (As := [.int (ki 1)]) (rv := some (.int v11.1)) (h2 := v11.2) (ci := 6) c_222 rfl (Nat.le_of_ble_eq_true rfl) rfl rfl e10 (by decide) (Nat.le_of_ble_eq_true rfl) (fun Q2 hQ2 => r_X6_digits hX (d := d) e12 hQ2) ?_
  refine go_adv hX c_222 1 (F2 := (80, [], [(3, .int v11.1), (0, .ref x0), (1, .int x1), (2, .int x2), (4, .int x4)], v11.2)) rfl ?_
  refine go_ls [(0, .ref x0), (1, .int x1), (2, .int x2), (3, .int v11.1), (4, .int x4)] ⟨rfl, ⟨rfl, ⟨rfl, ⟨rfl, ⟨rfl, trivial⟩⟩⟩⟩⟩ ?_
  exact r_X6_order_B80 hX hF hQ
theorem r_X6_order_B49 {X : mm_Cl} (hX : mm_mono X) {d c k : Nat} {Q : mm_Re → Prop} {h : mm_S} {x0 : Nat} {x1 : Int32} {x2 : Int32} {x3 : Int32} {x4 : Int32} {o : mm_S} (hF : F_X6_order_B49 h x0 x1 x2 x3 x4 = some o) (hQ : Q (.inl none, o)) : mm_Ex (mm_Run X (d + 3)) 222 Q (49, [], [(0, .ref x0), (1, .int x1), (2, .int x2), (3, .int x3), (4, .int x4)], h) c k := by
  unfold F_X6_order_B49 at hF
  refine go_adv hX c_222 2 (F2 := (51, [.int (ki 3), .int x1], [(0, .ref x0), (1, .int x1), (2, .int x2), (3, .int x3), (4, .int x4)], h)) rfl ?_
  rcases mm_ite hF with ⟨hc6, hF⟩ | ⟨hc6, hF⟩
  · refine go_ct hX 70 c_222 rfl rfl hc6 ?_
    refine go_ls [(0, .ref x0), (1, .int x1), (2, .int x2), (4, .int x4)] ⟨rfl, ⟨rfl, ⟨rfl, ⟨rfl, trivial⟩⟩⟩⟩ ?_
    exact r_X6_order_B70 hX hF hQ
  · refine go_cf hX c_222 rfl (by decide) hc6 ?_
    refine go_adv hX c_222 2 (F2 := (56, [.int (ki 4), .int x1], [(0, .ref x0), (1, .int x1), (2, .int x2), (3, .int x3), (4, .int x4)], h)) rfl ?_
    rcases mm_ite hF with ⟨hc51, hF⟩ | ⟨hc51, hF⟩
    · refine go_ct hX 70 c_222 rfl rfl hc51 ?_
      refine go_ls [(0, .ref x0), (1, .int x1), (2, .int x2), (4, .int x4)] ⟨rfl, ⟨rfl, ⟨rfl, ⟨rfl, trivial⟩⟩⟩⟩ ?_
      exact r_X6_order_B70 hX hF hQ
    · refine go_cf hX c_222 rfl (by decide) hc51 ?_
      refine go_adv hX c_222 2 (F2 := (61, [.int (ki 5), .int x1], [(0, .ref x0), (1, .int x1), (2, .int x2), (3, .int x3), (4, .int x4)], h)) rfl ?_
      rcases mm_ite hF with ⟨hc52, hF⟩ | ⟨hc52, hF⟩
      · refine go_ct hX 70 c_222 rfl rfl hc52 ?_
        refine go_ls [(0, .ref x0), (1, .int x1), (2, .int x2), (4, .int x4)] ⟨rfl, ⟨rfl, ⟨rfl, ⟨rfl, trivial⟩⟩⟩⟩ ?_
        exact r_X6_order_B70 hX hF hQ
      · refine go_cf hX c_222 rfl (by decide) hc52 ?_
        refine go_adv hX c_222 2 (F2 := (67, [.int (kb 7), .int x1], [(0, .ref x0), (1, .int x1), (2, .int x2), (3, .int x3), (4, .int x4)], h)) rfl ?_
        rcases mm_ite hF with ⟨hc53, hF⟩ | ⟨hc53, hF⟩
        · refine go_ct hX 80 c_222 rfl rfl hc53 ?_
          refine go_ls [(0, .ref x0), (1, .int x1), (2, .int x2), (3, .int x3), (4, .int x4)] ⟨rfl, ⟨rfl, ⟨rfl, ⟨rfl, ⟨rfl, trivial⟩⟩⟩⟩⟩ ?_
          exact r_X6_order_B80 hX hF hQ
        · refine go_cf hX c_222 rfl (by decide) hc53 ?_
          refine go_ls [(0, .ref x0), (1, .int x1), (2, .int x2), (4, .int x4)] ⟨rfl, ⟨rfl, ⟨rfl, ⟨rfl, trivial⟩⟩⟩⟩ ?_
          exact r_X6_order_B70 hX hF hQ
theorem r_X6_order_B28 {X : mm_Cl} (hX : mm_mono X) {d c k : Nat} {Q : mm_Re → Prop} {h : mm_S} {x0 : Nat} {x1 : Int32} {x2 : Int32} {x3 : Int32} {x4 : Int32} {o : mm_S} (hF : F_X6_order_B28 h x0 x1 x2 x3 x4 = some o) (hQ : Q (.inl none, o)) : mm_Ex (mm_Run X (d + 3)) 222 Q (28, [], [(0, .ref x0), (1, .int x1), (2, .int x2), (3, .int x3), (4, .int x4)], h) c k := by
  unfold F_X6_order_B28 at hF
  refine go_adv hX c_222 1 (F2 := (29, [.int x1], [(0, .ref x0), (1, .int x1), (2, .int x2), (3, .int x3), (4, .int x4)], h)) rfl ?_
  rcases mm_ite hF with ⟨hc5, hF⟩ | ⟨hc5, hF⟩
  · refine go_zt hX 49 c_222 rfl rfl hc5 ?_
    refine go_ls [(0, .ref x0), (1, .int x1), (2, .int x2), (3, .int x3), (4, .int x4)] ⟨rfl, ⟨rfl, ⟨rfl, ⟨rfl, ⟨rfl, trivial⟩⟩⟩⟩⟩ ?_
    exact r_X6_order_B49 hX hF hQ
  · refine go_zf hX c_222 rfl (by decide) hc5 ?_
    refine go_adv hX c_222 2 (F2 := (34, [.int (ki 1), .ref x0], [(0, .ref x0), (1, .int x1), (2, .int x2), (3, .int x3), (4, .int x4)], h)) rfl ?_
    obtain ⟨_, e54, hF⟩ := mm_bind hF
    obtain ⟨v55, e56, hF⟩ := mm_bind hF
    refine go_cV hX (As := [.int (ki 1)]) (rv := some (.int v55.1)) (h2 := v55.2) (ci := 6) c_222 rfl (Nat.le_of_ble_eq_true rfl) rfl rfl e54 (by decide) (Nat.le_of_ble_eq_true rfl) (fun Q2 hQ2 => r_X6_digits hX (d := d) e56 hQ2) ?_
    refine go_adv hX c_222 2 (F2 := (39, [.ref x0], [(3, .int v55.1), (0, .ref x0), (1, .int x1), (2, .int x2), (4, .int x4)], v55.2)) rfl ?_
    obtain ⟨_, e57, hF⟩ := mm_bind hF
    obtain ⟨v58, e59, hF⟩ := mm_bind hF
    refine go_cV hX (As := []) (rv := none) (h2 := v58) (ci := 6) c_222 rfl (Nat.le_of_ble_eq_true rfl) rfl rfl e57 (by decide) (Nat.le_of_ble_eq_true rfl) (fun Q2 hQ2 => r_X6_blank hX (d := (d + 1)) e59 hQ2) ?_
    refine go_adv hX c_222 2 (F2 := (44, [.int (ki 2), .ref x0], [(3, .int v55.1), (0, .ref x0), (1, .int x1), (2, .int x2), (4, .int x4)], v58)) rfl ?_
    obtain ⟨_, e60, hF⟩ := mm_bind hF
    obtain ⟨v61, e62, hF⟩ := mm_bind hF
    refine go_cV hX (As := [.int (ki 2)]) (rv := some (.int v61.1)) (h2 := v61.2) (ci := 6) c_222 rfl (Nat.le_of_ble_eq_true rfl) rfl rfl e60 (by decide) (Nat.le_of_ble_eq_true rfl) (fun Q2 hQ2 => r_X6_digits hX (d := d) e62 hQ2) ?_
    refine go_adv hX c_222 1 (F2 := (49, [], [(4, .int v61.1), (3, .int v55.1), (0, .ref x0), (1, .int x1), (2, .int x2)], v61.2)) rfl ?_
    refine go_ls [(0, .ref x0), (1, .int x1), (2, .int x2), (3, .int v55.1), (4, .int v61.1)] ⟨rfl, ⟨rfl, ⟨rfl, ⟨rfl, ⟨rfl, trivial⟩⟩⟩⟩⟩ ?_
    exact r_X6_order_B49 hX hF hQ
theorem r_X6_order {X : mm_Cl} (hX : mm_mono X) {d c k : Nat} {Q : mm_Re → Prop} {h : mm_S} {x0 : Nat} {o : mm_S} (hF : F_X6_order h x0 = some o) (hQ : Q (.inl none, o)) : mm_Run X (d + 4) 222 c k [.ref x0] h Q := by
  unfold F_X6_order at hF
  refine mm_Run_in (by decide) (by decide) (Nat.le_of_ble_eq_true rfl) ?_
  show mm_Ex (mm_Run X (d + 3)) 222 Q (0, [], [(0, .ref x0)], h) c k
  refine go_adv hX c_222 1 (F2 := (1, [.ref x0], [(0, .ref x0)], h)) rfl ?_
  obtain ⟨_, e1, hF⟩ := mm_bind hF
  obtain ⟨v2, e3, hF⟩ := mm_bind hF
  refine go_cV hX (As := []) (rv := some (.int v2.1)) (h2 := v2.2) (ci := 6) c_222 rfl (Nat.le_of_ble_eq_true rfl) rfl rfl e1 (by decide) (Nat.le_of_ble_eq_true rfl) (fun Q2 hQ2 => r_X6_kindHere hX (d := d) e3 hQ2) ?_
  refine go_adv hX c_222 9 (F2 := (15, [.int (kb 8), .int v2.1], [(4, .int (ki 0)), (3, .int (ki 0)), (2, .int (ki 0)), (1, .int v2.1), (0, .ref x0)], v2.2)) rfl ?_
  rcases mm_ite hF with ⟨hc4, hF⟩ | ⟨hc4, hF⟩
  · refine go_ct hX 28 c_222 rfl rfl hc4 ?_
    refine go_ls [(0, .ref x0), (1, .int v2.1), (2, .int (ki 0)), (3, .int (ki 0)), (4, .int (ki 0))] ⟨rfl, ⟨rfl, ⟨rfl, ⟨rfl, ⟨rfl, trivial⟩⟩⟩⟩⟩ ?_
    exact r_X6_order_B28 hX hF hQ
  · refine go_cf hX c_222 rfl (by decide) hc4 ?_
    refine go_adv hX c_222 1 (F2 := (19, [.ref x0], [(4, .int (ki 0)), (3, .int (ki 0)), (2, .int (ki 0)), (1, .int v2.1), (0, .ref x0)], v2.2)) rfl ?_
    obtain ⟨_, e63, hF⟩ := mm_bind hF
    obtain ⟨v64, e65, hF⟩ := mm_bind hF
    refine go_cV hX (As := []) (rv := none) (h2 := v64) (ci := 6) c_222 rfl (Nat.le_of_ble_eq_true rfl) rfl rfl e63 (by decide) (Nat.le_of_ble_eq_true rfl) (fun Q2 hQ2 => r_X6_blank hX (d := (d + 1)) e65 hQ2) ?_
    refine go_adv hX c_222 2 (F2 := (24, [.int (ki 1), .ref x0], [(4, .int (ki 0)), (3, .int (ki 0)), (2, .int (ki 0)), (1, .int v2.1), (0, .ref x0)], v64)) rfl ?_
    obtain ⟨_, e66, hF⟩ := mm_bind hF
    obtain ⟨v67, e68, hF⟩ := mm_bind hF
    refine go_cV hX (As := [.int (ki 1)]) (rv := some (.int v67.1)) (h2 := v67.2) (ci := 6) c_222 rfl (Nat.le_of_ble_eq_true rfl) rfl rfl e66 (by decide) (Nat.le_of_ble_eq_true rfl) (fun Q2 hQ2 => r_X6_digits hX (d := d) e68 hQ2) ?_
    refine go_adv hX c_222 1 (F2 := (28, [], [(2, .int v67.1), (4, .int (ki 0)), (3, .int (ki 0)), (1, .int v2.1), (0, .ref x0)], v67.2)) rfl ?_
    refine go_ls [(0, .ref x0), (1, .int v2.1), (2, .int v67.1), (3, .int (ki 0)), (4, .int (ki 0))] ⟨rfl, ⟨rfl, ⟨rfl, ⟨rfl, ⟨rfl, trivial⟩⟩⟩⟩⟩ ?_
    exact r_X6_order_B28 hX hF hQ
theorem c_223 : mm_cd 223 = k_X6_reads := rfl
def F_X6_reads_L32 : Nat → Nat → mm_S → Option mm_S
  | 0, _, _ => none
  | n + 1, x0, h =>
    (fx_is h x0 6).bind fun _ =>
    (F_X6_mark h x0).bind fun v17 =>
    if v17 ≠ (kb 59) then
      some h
    else
      (fx_gI h x0 6 21).bind fun v20 =>
      (fx_pV h x0 6 21 (.int (v20 + (ki 1)))).bind fun h22 =>
      (fx_is h22 x0 6).bind fun _ =>
      (F_X6_order h22 x0).bind fun v25 =>
      F_X6_reads_L32 n x0 v25
def F_X6_reads (h : mm_S) (x0 : Nat) : Option mm_S :=
  (fx_gI h x0 6 19).bind fun v1 =>
  (fx_pV h x0 6 20 (.int v1)).bind fun h3 =>
  (fx_pV h3 x0 6 19 (.int (ki 0))).bind fun h5 =>
  (fx_pV h5 x0 6 21 (.int (ki 0))).bind fun h7 =>
  (fx_pV h7 x0 6 22 (.int (ki 0))).bind fun h9 =>
  (fx_pV h9 x0 6 23 (.int (ki 0))).bind fun h11 =>
  (fx_is h11 x0 6).bind fun _ =>
  (F_X6_order h11 x0).bind fun v14 =>
  (F_X6_reads_L32 1000 x0 v14).bind fun o27 =>
  (fx_gI o27 x0 6 23).bind fun v29 =>
  (fx_gI o27 x0 6 21).bind fun v31 =>
  (fx_gI o27 x0 6 20).bind fun v33 =>
  if v33 ≤ v31 then
    (fx_pV o27 x0 6 23 (.int (v29 ||| (ki 0)))).bind fun h36 =>
    some h36
  else
    (fx_pV o27 x0 6 23 (.int (v29 ||| (ki 1)))).bind fun h38 =>
    some h38
theorem r_X6_reads_L32 {X : mm_Cl} (hX : mm_mono X) {d c k : Nat} {Q : mm_Re → Prop} : ∀ (n : Nat) (x0 : Nat) (h : mm_S) (o : mm_S), F_X6_reads_L32 n x0 h = some o → (mm_Ex (mm_Run X (d + 4)) 223 Q (58, [], [(0, .ref x0)], o) c k) → mm_Ex (mm_Run X (d + 4)) 223 Q (32, [], [(0, .ref x0)], h) c k := by
  intro n
  induction n with
  | zero => intro x0 h o hF; cases hF
  | succ n ih =>
    intro x0 h o hF hE
    unfold F_X6_reads_L32 at hF
    refine go_adv hX c_223 1 (F2 := (33, [.ref x0], [(0, .ref x0)], h)) rfl ?_
    obtain ⟨_, e16, hF⟩ := mm_bind hF
    obtain ⟨v17, e18, hF⟩ := mm_bind hF
    refine go_cV hX (As := []) (rv := some (.int v17)) (h2 := h) (ci := 6) c_223 rfl (Nat.le_of_ble_eq_true rfl) rfl rfl e16 (by decide) (Nat.le_of_ble_eq_true rfl) (fun Q2 hQ2 => r_X6_mark hX (d := (d + 3)) e18 hQ2) ?_
    refine go_adv hX c_223 1 (F2 := (38, [.int (kb 59), .int v17], [(0, .ref x0)], h)) rfl ?_
    rcases mm_ite hF with ⟨hc19, hF⟩ | ⟨hc19, hF⟩
    · refine go_ct hX 58 c_223 rfl rfl hc19 ?_
      cases hF
      refine go_ls [(0, .ref x0)] ⟨rfl, trivial⟩ ?_
      exact hE
    · refine go_cf hX c_223 rfl (by decide) hc19 ?_
      refine go_adv hX c_223 1 (F2 := (42, [.ref x0], [(0, .ref x0)], h)) rfl ?_
      refine go_p hX c_223 rfl rfl rfl ?_
      obtain ⟨v20, e21, hF⟩ := mm_bind hF
      refine go_gI hX c_223 rfl e21 ?_
      refine go_adv hX c_223 2 (F2 := (48, [.int (v20 + (ki 1)), .ref x0], [(0, .ref x0)], h)) rfl ?_
      obtain ⟨h22, e23, hF⟩ := mm_bind hF
      refine go_pV hX c_223 rfl e23 ?_
      refine go_adv hX c_223 1 (F2 := (52, [.ref x0], [(0, .ref x0)], h22)) rfl ?_
      obtain ⟨_, e24, hF⟩ := mm_bind hF
      obtain ⟨v25, e26, hF⟩ := mm_bind hF
      refine go_cV hX (As := []) (rv := none) (h2 := v25) (ci := 6) c_223 rfl (Nat.le_of_ble_eq_true rfl) rfl rfl e24 (by decide) (Nat.le_of_ble_eq_true rfl) (fun Q2 hQ2 => r_X6_order hX (d := d) e26 hQ2) ?_
      refine go_to hX 32 c_223 rfl rfl ?_
      refine go_ls [(0, .ref x0)] ⟨rfl, trivial⟩ ?_
      exact ih x0 v25 _ hF hE
theorem r_X6_reads {X : mm_Cl} (hX : mm_mono X) {d c k : Nat} {Q : mm_Re → Prop} {h : mm_S} {x0 : Nat} {o : mm_S} (hF : F_X6_reads h x0 = some o) (hQ : Q (.inl none, o)) : mm_Run X (d + 5) 223 c k [.ref x0] h Q := by
  unfold F_X6_reads at hF
  refine mm_Run_in (by decide) (by decide) (Nat.le_of_ble_eq_true rfl) ?_
  show mm_Ex (mm_Run X (d + 4)) 223 Q (0, [], [(0, .ref x0)], h) c k
  refine go_adv hX c_223 2 (F2 := (2, [.ref x0, .ref x0], [(0, .ref x0)], h)) rfl ?_
  obtain ⟨v1, e2, hF⟩ := mm_bind hF
  refine go_gI hX c_223 rfl e2 ?_
  obtain ⟨h3, e4, hF⟩ := mm_bind hF
  refine go_pV hX c_223 rfl e4 ?_
  refine go_adv hX c_223 2 (F2 := (10, [.int (ki 0), .ref x0], [(0, .ref x0)], h3)) rfl ?_
  obtain ⟨h5, e6, hF⟩ := mm_bind hF
  refine go_pV hX c_223 rfl e6 ?_
  refine go_adv hX c_223 2 (F2 := (15, [.int (ki 0), .ref x0], [(0, .ref x0)], h5)) rfl ?_
  obtain ⟨h7, e8, hF⟩ := mm_bind hF
  refine go_pV hX c_223 rfl e8 ?_
  refine go_adv hX c_223 2 (F2 := (20, [.int (ki 0), .ref x0], [(0, .ref x0)], h7)) rfl ?_
  obtain ⟨h9, e10, hF⟩ := mm_bind hF
  refine go_pV hX c_223 rfl e10 ?_
  refine go_adv hX c_223 2 (F2 := (25, [.int (ki 0), .ref x0], [(0, .ref x0)], h9)) rfl ?_
  obtain ⟨h11, e12, hF⟩ := mm_bind hF
  refine go_pV hX c_223 rfl e12 ?_
  refine go_adv hX c_223 1 (F2 := (29, [.ref x0], [(0, .ref x0)], h11)) rfl ?_
  obtain ⟨_, e13, hF⟩ := mm_bind hF
  obtain ⟨v14, e15, hF⟩ := mm_bind hF
  refine go_cV hX (As := []) (rv := none) (h2 := v14) (ci := 6) c_223 rfl (Nat.le_of_ble_eq_true rfl) rfl rfl e13 (by decide) (Nat.le_of_ble_eq_true rfl) (fun Q2 hQ2 => r_X6_order hX (d := d) e15 hQ2) ?_
  refine go_ls [(0, .ref x0)] ⟨rfl, trivial⟩ ?_
  obtain ⟨o27, e28, hF⟩ := mm_bind hF
  refine r_X6_reads_L32 hX 1000 x0 v14 o27 e28 ?_
  refine go_adv hX c_223 1 (F2 := (59, [.ref x0], [(0, .ref x0)], o27)) rfl ?_
  refine go_p hX c_223 rfl rfl rfl ?_
  obtain ⟨v29, e30, hF⟩ := mm_bind hF
  refine go_gI hX c_223 rfl e30 ?_
  refine go_adv hX c_223 1 (F2 := (64, [.ref x0, .int v29, .ref x0], [(0, .ref x0)], o27)) rfl ?_
  obtain ⟨v31, e32, hF⟩ := mm_bind hF
  refine go_gI hX c_223 rfl e32 ?_
  refine go_adv hX c_223 1 (F2 := (68, [.ref x0, .int v31, .int v29, .ref x0], [(0, .ref x0)], o27)) rfl ?_
  obtain ⟨v33, e34, hF⟩ := mm_bind hF
  refine go_gI hX c_223 rfl e34 ?_
  rcases mm_ite hF with ⟨hc35, hF⟩ | ⟨hc35, hF⟩
  · refine go_ct hX 78 c_223 rfl rfl hc35 ?_
    refine go_adv hX c_223 2 (F2 := (80, [.int (v29 ||| (ki 0)), .ref x0], [(0, .ref x0)], o27)) rfl ?_
    obtain ⟨h36, e37, hF⟩ := mm_bind hF
    refine go_pV hX c_223 rfl e37 ?_
    cases hF
    exact go_ret hX c_223 rfl rfl hQ
  · refine go_cf hX c_223 rfl (by decide) hc35 ?_
    refine go_adv hX c_223 1 (F2 := (75, [.int (ki 1), .int v29, .ref x0], [(0, .ref x0)], o27)) rfl ?_
    refine go_to hX 79 c_223 rfl rfl ?_
    refine go_adv hX c_223 1 (F2 := (80, [.int (v29 ||| (ki 1)), .ref x0], [(0, .ref x0)], o27)) rfl ?_
    obtain ⟨h38, e39, hF⟩ := mm_bind hF
    refine go_pV hX c_223 rfl e39 ?_
    cases hF
    exact go_ret hX c_223 rfl rfl hQ
theorem c_224 : mm_cd 224 = k_X6_cannot := rfl
def F_X6_cannot (h : mm_S) (x0 : Nat) (x1 : Int32) : Option (Int32 × mm_S) :=
  (fx_gR h x0 6 18).bind fun v1 =>
  (fx_aI h v1 ((ki 3) * x1)).bind fun v3 =>
  (fx_gR h x0 6 18).bind fun v5 =>
  (fx_aI h v5 (((ki 3) * x1) + (ki 1))).bind fun v7 =>
  (fx_gR h x0 6 18).bind fun v9 =>
  (fx_aI h v9 (((ki 3) * x1) + (ki 2))).bind fun v11 =>
  (fx_gR h x0 6 17).bind fun v13 =>
  (fx_aI h v13 x1).bind fun v15 =>
  if v15 = nI 0 then
    (fx_is h x0 6).bind fun _ =>
    (F_X6_isRefusedBuild h x0 v3 v7 v11).bind fun v19 =>
    if v19.1 = 0 then
      (fx_is v19.2 x0 6).bind fun _ =>
      (F_X6_builds v19.2 x0 v3 v7 v11).bind fun v23 =>
      some (ki 0, v23.2)
    else
      some (ki 1, v19.2)
  else if v15 = nI 1 then
    (fx_is h x0 6).bind fun _ =>
    (F_X6_isNoStair h x0 v3).bind fun v27 =>
    if v27.1 = 0 then
      (fx_is v27.2 x0 6).bind fun _ =>
      (F_X6_tears v27.2 x0 v3).bind fun v31 =>
      some (ki 0, v31.2)
    else
      some (ki 1, v27.2)
  else if v15 = nI 2 then
    (fx_is h x0 6).bind fun _ =>
    (F_X6_isRefusedHalve h x0 v3).bind fun v35 =>
    if v35.1 = 0 then
      (fx_is v35.2 x0 6).bind fun _ =>
      (F_X6_halves v35.2 x0 v3).bind fun v39 =>
      some (ki 0, v39.2)
    else
      some (ki 1, v35.2)
  else if v15 = nI 3 then
    (fx_is h x0 6).bind fun _ =>
    (F_X6_isRefusedLease h x0 v3 v7 v11).bind fun v43 =>
    if v43.1 = 0 then
      (fx_is v43.2 x0 6).bind fun _ =>
      (F_X6_leases v43.2 x0 v3 v7 v11).bind fun v47 =>
      some (ki 0, v47.2)
    else
      some (ki 1, v43.2)
  else if v15 = nI 4 then
    (fx_is h x0 6).bind fun _ =>
    (F_X6_isRefusedClimb h x0 v3 v7).bind fun v51 =>
    if v51.1 = 0 then
      (fx_is v51.2 x0 6).bind fun _ =>
      (F_X6_climbs v51.2 x0 v3 v7).bind fun v55 =>
      some (ki 0, v55.2)
    else
      some (ki 1, v51.2)
  else if v15 = nI 5 then
    (fx_is h x0 6).bind fun _ =>
    (F_X6_isRefusedLevy h x0 v3 v7).bind fun v59 =>
    if v59.1 = 0 then
      (fx_is v59.2 x0 6).bind fun _ =>
      (F_X6_levies v59.2 x0 v3 v7).bind fun v63 =>
      some (ki 0, v63.2)
    else
      some (ki 1, v59.2)
  else if v15 = nI 6 then
    (fx_is h x0 6).bind fun _ =>
    (F_X6_isRefusedTake h x0 v3).bind fun v67 =>
    if v67.1 = 0 then
      (fx_is v67.2 x0 6).bind fun _ =>
      (F_X6_takes v67.2 x0 v3).bind fun v71 =>
      some (ki 0, v71.2)
    else
      some (ki 1, v67.2)
  else if v15 = nI 7 then
    (fx_is h x0 6).bind fun _ =>
    (F_X6_isRefusedCede h x0 v3 v7).bind fun v75 =>
    if v75.1 = 0 then
      (fx_is v75.2 x0 6).bind fun _ =>
      (F_X6_cedes v75.2 x0 v3 v7).bind fun v79 =>
      some (ki 0, v79.2)
    else
      some (ki 1, v75.2)
  else
    (fx_is h x0 6).bind fun _ =>
    (F_X6_goesBy h x0).bind fun v82 =>
    some (ki 0, v82.2)
theorem r_X6_cannot {X : mm_Cl} (hX : mm_mono X) {d c k : Nat} {Q : mm_Re → Prop} {h : mm_S} {x0 : Nat} {x1 : Int32} {o : (Int32 × mm_S)} (hF : F_X6_cannot h x0 x1 = some o) (hQ : Q (.inl (some (.int o.1)), o.2)) : mm_Run X (d + 5) 224 c k [.ref x0, .int x1] h Q := by
  unfold F_X6_cannot at hF
  refine mm_Run_in (by decide) (by decide) (Nat.le_of_ble_eq_true rfl) ?_
  show mm_Ex (mm_Run X (d + 4)) 224 Q (0, [], [(0, .ref x0), (1, .int x1)], h) c k
  refine go_adv hX c_224 3 (F2 := (3, [.ref x0], [(2, .int (ki 0)), (0, .ref x0), (1, .int x1)], h)) rfl ?_
  obtain ⟨v1, e2, hF⟩ := mm_bind hF
  refine go_gR hX c_224 rfl e2 ?_
  refine go_adv hX c_224 3 (F2 := (9, [.int ((ki 3) * x1), .ref v1], [(2, .int (ki 0)), (0, .ref x0), (1, .int x1)], h)) rfl ?_
  obtain ⟨v3, e4, hF⟩ := mm_bind hF
  refine go_aI hX c_224 rfl e4 ?_
  refine go_adv hX c_224 2 (F2 := (12, [.ref x0], [(3, .int v3), (2, .int (ki 0)), (0, .ref x0), (1, .int x1)], h)) rfl ?_
  obtain ⟨v5, e6, hF⟩ := mm_bind hF
  refine go_gR hX c_224 rfl e6 ?_
  refine go_adv hX c_224 5 (F2 := (20, [.int (((ki 3) * x1) + (ki 1)), .ref v5], [(3, .int v3), (2, .int (ki 0)), (0, .ref x0), (1, .int x1)], h)) rfl ?_
  obtain ⟨v7, e8, hF⟩ := mm_bind hF
  refine go_aI hX c_224 rfl e8 ?_
  refine go_adv hX c_224 2 (F2 := (24, [.ref x0], [(4, .int v7), (3, .int v3), (2, .int (ki 0)), (0, .ref x0), (1, .int x1)], h)) rfl ?_
  obtain ⟨v9, e10, hF⟩ := mm_bind hF
  refine go_gR hX c_224 rfl e10 ?_
  refine go_adv hX c_224 5 (F2 := (32, [.int (((ki 3) * x1) + (ki 2)), .ref v9], [(4, .int v7), (3, .int v3), (2, .int (ki 0)), (0, .ref x0), (1, .int x1)], h)) rfl ?_
  obtain ⟨v11, e12, hF⟩ := mm_bind hF
  refine go_aI hX c_224 rfl e12 ?_
  refine go_adv hX c_224 2 (F2 := (36, [.ref x0], [(5, .int v11), (4, .int v7), (3, .int v3), (2, .int (ki 0)), (0, .ref x0), (1, .int x1)], h)) rfl ?_
  obtain ⟨v13, e14, hF⟩ := mm_bind hF
  refine go_gR hX c_224 rfl e14 ?_
  refine go_adv hX c_224 1 (F2 := (40, [.int x1, .ref v13], [(5, .int v11), (4, .int v7), (3, .int v3), (2, .int (ki 0)), (0, .ref x0), (1, .int x1)], h)) rfl ?_
  obtain ⟨v15, e16, hF⟩ := mm_bind hF
  refine go_aI hX c_224 rfl e16 ?_
  rcases mm_ite hF with ⟨hc17, hF⟩ | ⟨hc17, hF⟩
  · refine go_sw hX 88 c_224 rfl hc17 (by decide) (by decide +kernel) ?_
    refine go_adv hX c_224 4 (F2 := (94, [.int v11, .int v7, .int v3, .ref x0], [(5, .int v11), (4, .int v7), (3, .int v3), (2, .int (ki 0)), (0, .ref x0), (1, .int x1)], h)) rfl ?_
    obtain ⟨_, e18, hF⟩ := mm_bind hF
    obtain ⟨v19, e20, hF⟩ := mm_bind hF
    refine go_cV hX (As := [.int v3, .int v7, .int v11]) (rv := some (.int v19.1)) (h2 := v19.2) (ci := 6) c_224 rfl (Nat.le_of_ble_eq_true rfl) rfl rfl e18 (by decide) (Nat.le_of_ble_eq_true rfl) (fun Q2 hQ2 => r_X6_isRefusedBuild hX (d := d) e20 hQ2) ?_
    rcases mm_ite hF with ⟨hc21, hF⟩ | ⟨hc21, hF⟩
    · refine go_zt hX 102 c_224 rfl rfl hc21 ?_
      refine go_adv hX c_224 4 (F2 := (108, [.int v11, .int v7, .int v3, .ref x0], [(5, .int v11), (4, .int v7), (3, .int v3), (2, .int (ki 0)), (0, .ref x0), (1, .int x1)], v19.2)) rfl ?_
      obtain ⟨_, e22, hF⟩ := mm_bind hF
      obtain ⟨v23, e24, hF⟩ := mm_bind hF
      refine go_cV hX (As := [.int v3, .int v7, .int v11]) (rv := some (.int v23.1)) (h2 := v23.2) (ci := 6) c_224 rfl (Nat.le_of_ble_eq_true rfl) rfl rfl e22 (by decide) (Nat.le_of_ble_eq_true rfl) (fun Q2 hQ2 => r_X6_builds hX (d := (d + 2)) e24 hQ2) ?_
      refine go_adv hX c_224 2 (F2 := (113, [.int (ki 0)], [(2, .int v23.1), (5, .int v11), (4, .int v7), (3, .int v3), (0, .ref x0), (1, .int x1)], v23.2)) rfl ?_
      cases hF
      exact go_iret hX c_224 rfl rfl (by decide) hQ
    · refine go_zf hX c_224 rfl (by decide) hc21 ?_
      refine go_adv hX c_224 1 (F2 := (101, [.int (ki 1)], [(5, .int v11), (4, .int v7), (3, .int v3), (2, .int (ki 0)), (0, .ref x0), (1, .int x1)], v19.2)) rfl ?_
      cases hF
      exact go_iret hX c_224 rfl rfl (by decide) hQ
  rcases mm_ite hF with ⟨hc25, hF⟩ | ⟨hc25, hF⟩
  · refine go_sw hX 114 c_224 rfl hc25 (by decide) (by decide +kernel) ?_
    refine go_adv hX c_224 2 (F2 := (116, [.int v3, .ref x0], [(5, .int v11), (4, .int v7), (3, .int v3), (2, .int (ki 0)), (0, .ref x0), (1, .int x1)], h)) rfl ?_
    obtain ⟨_, e26, hF⟩ := mm_bind hF
    obtain ⟨v27, e28, hF⟩ := mm_bind hF
    refine go_cV hX (As := [.int v3]) (rv := some (.int v27.1)) (h2 := v27.2) (ci := 6) c_224 rfl (Nat.le_of_ble_eq_true rfl) rfl rfl e26 (by decide) (Nat.le_of_ble_eq_true rfl) (fun Q2 hQ2 => r_X6_isNoStair hX (d := (d + 1)) e28 hQ2) ?_
    rcases mm_ite hF with ⟨hc29, hF⟩ | ⟨hc29, hF⟩
    · refine go_zt hX 124 c_224 rfl rfl hc29 ?_
      refine go_adv hX c_224 2 (F2 := (126, [.int v3, .ref x0], [(5, .int v11), (4, .int v7), (3, .int v3), (2, .int (ki 0)), (0, .ref x0), (1, .int x1)], v27.2)) rfl ?_
      obtain ⟨_, e30, hF⟩ := mm_bind hF
      obtain ⟨v31, e32, hF⟩ := mm_bind hF
      refine go_cV hX (As := [.int v3]) (rv := some (.int v31.1)) (h2 := v31.2) (ci := 6) c_224 rfl (Nat.le_of_ble_eq_true rfl) rfl rfl e30 (by decide) (Nat.le_of_ble_eq_true rfl) (fun Q2 hQ2 => r_X6_tears hX (d := (d + 2)) e32 hQ2) ?_
      refine go_adv hX c_224 2 (F2 := (131, [.int (ki 0)], [(2, .int v31.1), (5, .int v11), (4, .int v7), (3, .int v3), (0, .ref x0), (1, .int x1)], v31.2)) rfl ?_
      cases hF
      exact go_iret hX c_224 rfl rfl (by decide) hQ
    · refine go_zf hX c_224 rfl (by decide) hc29 ?_
      refine go_adv hX c_224 1 (F2 := (123, [.int (ki 1)], [(5, .int v11), (4, .int v7), (3, .int v3), (2, .int (ki 0)), (0, .ref x0), (1, .int x1)], v27.2)) rfl ?_
      cases hF
      exact go_iret hX c_224 rfl rfl (by decide) hQ
  rcases mm_ite hF with ⟨hc33, hF⟩ | ⟨hc33, hF⟩
  · refine go_sw hX 132 c_224 rfl hc33 (by decide) (by decide +kernel) ?_
    refine go_adv hX c_224 2 (F2 := (134, [.int v3, .ref x0], [(5, .int v11), (4, .int v7), (3, .int v3), (2, .int (ki 0)), (0, .ref x0), (1, .int x1)], h)) rfl ?_
    obtain ⟨_, e34, hF⟩ := mm_bind hF
    obtain ⟨v35, e36, hF⟩ := mm_bind hF
    refine go_cV hX (As := [.int v3]) (rv := some (.int v35.1)) (h2 := v35.2) (ci := 6) c_224 rfl (Nat.le_of_ble_eq_true rfl) rfl rfl e34 (by decide) (Nat.le_of_ble_eq_true rfl) (fun Q2 hQ2 => r_X6_isRefusedHalve hX (d := d) e36 hQ2) ?_
    rcases mm_ite hF with ⟨hc37, hF⟩ | ⟨hc37, hF⟩
    · refine go_zt hX 142 c_224 rfl rfl hc37 ?_
      refine go_adv hX c_224 2 (F2 := (144, [.int v3, .ref x0], [(5, .int v11), (4, .int v7), (3, .int v3), (2, .int (ki 0)), (0, .ref x0), (1, .int x1)], v35.2)) rfl ?_
      obtain ⟨_, e38, hF⟩ := mm_bind hF
      obtain ⟨v39, e40, hF⟩ := mm_bind hF
      refine go_cV hX (As := [.int v3]) (rv := some (.int v39.1)) (h2 := v39.2) (ci := 6) c_224 rfl (Nat.le_of_ble_eq_true rfl) rfl rfl e38 (by decide) (Nat.le_of_ble_eq_true rfl) (fun Q2 hQ2 => r_X6_halves hX (d := (d + 2)) e40 hQ2) ?_
      refine go_adv hX c_224 2 (F2 := (149, [.int (ki 0)], [(2, .int v39.1), (5, .int v11), (4, .int v7), (3, .int v3), (0, .ref x0), (1, .int x1)], v39.2)) rfl ?_
      cases hF
      exact go_iret hX c_224 rfl rfl (by decide) hQ
    · refine go_zf hX c_224 rfl (by decide) hc37 ?_
      refine go_adv hX c_224 1 (F2 := (141, [.int (ki 1)], [(5, .int v11), (4, .int v7), (3, .int v3), (2, .int (ki 0)), (0, .ref x0), (1, .int x1)], v35.2)) rfl ?_
      cases hF
      exact go_iret hX c_224 rfl rfl (by decide) hQ
  rcases mm_ite hF with ⟨hc41, hF⟩ | ⟨hc41, hF⟩
  · refine go_sw hX 150 c_224 rfl hc41 (by decide) (by decide +kernel) ?_
    refine go_adv hX c_224 4 (F2 := (156, [.int v11, .int v7, .int v3, .ref x0], [(5, .int v11), (4, .int v7), (3, .int v3), (2, .int (ki 0)), (0, .ref x0), (1, .int x1)], h)) rfl ?_
    obtain ⟨_, e42, hF⟩ := mm_bind hF
    obtain ⟨v43, e44, hF⟩ := mm_bind hF
    refine go_cV hX (As := [.int v3, .int v7, .int v11]) (rv := some (.int v43.1)) (h2 := v43.2) (ci := 6) c_224 rfl (Nat.le_of_ble_eq_true rfl) rfl rfl e42 (by decide) (Nat.le_of_ble_eq_true rfl) (fun Q2 hQ2 => r_X6_isRefusedLease hX (d := d) e44 hQ2) ?_
    rcases mm_ite hF with ⟨hc45, hF⟩ | ⟨hc45, hF⟩
    · refine go_zt hX 164 c_224 rfl rfl hc45 ?_
      refine go_adv hX c_224 4 (F2 := (170, [.int v11, .int v7, .int v3, .ref x0], [(5, .int v11), (4, .int v7), (3, .int v3), (2, .int (ki 0)), (0, .ref x0), (1, .int x1)], v43.2)) rfl ?_
      obtain ⟨_, e46, hF⟩ := mm_bind hF
      obtain ⟨v47, e48, hF⟩ := mm_bind hF
      refine go_cV hX (As := [.int v3, .int v7, .int v11]) (rv := some (.int v47.1)) (h2 := v47.2) (ci := 6) c_224 rfl (Nat.le_of_ble_eq_true rfl) rfl rfl e46 (by decide) (Nat.le_of_ble_eq_true rfl) (fun Q2 hQ2 => r_X6_leases hX (d := (d + 1)) e48 hQ2) ?_
      refine go_adv hX c_224 2 (F2 := (175, [.int (ki 0)], [(2, .int v47.1), (5, .int v11), (4, .int v7), (3, .int v3), (0, .ref x0), (1, .int x1)], v47.2)) rfl ?_
      cases hF
      exact go_iret hX c_224 rfl rfl (by decide) hQ
    · refine go_zf hX c_224 rfl (by decide) hc45 ?_
      refine go_adv hX c_224 1 (F2 := (163, [.int (ki 1)], [(5, .int v11), (4, .int v7), (3, .int v3), (2, .int (ki 0)), (0, .ref x0), (1, .int x1)], v43.2)) rfl ?_
      cases hF
      exact go_iret hX c_224 rfl rfl (by decide) hQ
  rcases mm_ite hF with ⟨hc49, hF⟩ | ⟨hc49, hF⟩
  · refine go_sw hX 176 c_224 rfl hc49 (by decide) (by decide +kernel) ?_
    refine go_adv hX c_224 3 (F2 := (180, [.int v7, .int v3, .ref x0], [(5, .int v11), (4, .int v7), (3, .int v3), (2, .int (ki 0)), (0, .ref x0), (1, .int x1)], h)) rfl ?_
    obtain ⟨_, e50, hF⟩ := mm_bind hF
    obtain ⟨v51, e52, hF⟩ := mm_bind hF
    refine go_cV hX (As := [.int v3, .int v7]) (rv := some (.int v51.1)) (h2 := v51.2) (ci := 6) c_224 rfl (Nat.le_of_ble_eq_true rfl) rfl rfl e50 (by decide) (Nat.le_of_ble_eq_true rfl) (fun Q2 hQ2 => r_X6_isRefusedClimb hX (d := d) e52 hQ2) ?_
    rcases mm_ite hF with ⟨hc53, hF⟩ | ⟨hc53, hF⟩
    · refine go_zt hX 188 c_224 rfl rfl hc53 ?_
      refine go_adv hX c_224 3 (F2 := (192, [.int v7, .int v3, .ref x0], [(5, .int v11), (4, .int v7), (3, .int v3), (2, .int (ki 0)), (0, .ref x0), (1, .int x1)], v51.2)) rfl ?_
      obtain ⟨_, e54, hF⟩ := mm_bind hF
      obtain ⟨v55, e56, hF⟩ := mm_bind hF
      refine go_cV hX (As := [.int v3, .int v7]) (rv := some (.int v55.1)) (h2 := v55.2) (ci := 6) c_224 rfl (Nat.le_of_ble_eq_true rfl) rfl rfl e54 (by decide) (Nat.le_of_ble_eq_true rfl) (fun Q2 hQ2 => r_X6_climbs hX (d := (d + 1)) e56 hQ2) ?_
      refine go_adv hX c_224 2 (F2 := (197, [.int (ki 0)], [(2, .int v55.1), (5, .int v11), (4, .int v7), (3, .int v3), (0, .ref x0), (1, .int x1)], v55.2)) rfl ?_
      cases hF
      exact go_iret hX c_224 rfl rfl (by decide) hQ
    · refine go_zf hX c_224 rfl (by decide) hc53 ?_
      refine go_adv hX c_224 1 (F2 := (187, [.int (ki 1)], [(5, .int v11), (4, .int v7), (3, .int v3), (2, .int (ki 0)), (0, .ref x0), (1, .int x1)], v51.2)) rfl ?_
      cases hF
      exact go_iret hX c_224 rfl rfl (by decide) hQ
  rcases mm_ite hF with ⟨hc57, hF⟩ | ⟨hc57, hF⟩
  · refine go_sw hX 198 c_224 rfl hc57 (by decide) (by decide +kernel) ?_
    refine go_adv hX c_224 3 (F2 := (202, [.int v7, .int v3, .ref x0], [(5, .int v11), (4, .int v7), (3, .int v3), (2, .int (ki 0)), (0, .ref x0), (1, .int x1)], h)) rfl ?_
    obtain ⟨_, e58, hF⟩ := mm_bind hF
    obtain ⟨v59, e60, hF⟩ := mm_bind hF
    refine go_cV hX (As := [.int v3, .int v7]) (rv := some (.int v59.1)) (h2 := v59.2) (ci := 6) c_224 rfl (Nat.le_of_ble_eq_true rfl) rfl rfl e58 (by decide) (Nat.le_of_ble_eq_true rfl) (fun Q2 hQ2 => r_X6_isRefusedLevy hX (d := d) e60 hQ2) ?_
    rcases mm_ite hF with ⟨hc61, hF⟩ | ⟨hc61, hF⟩
    · refine go_zt hX 210 c_224 rfl rfl hc61 ?_
      refine go_adv hX c_224 3 (F2 := (214, [.int v7, .int v3, .ref x0], [(5, .int v11), (4, .int v7), (3, .int v3), (2, .int (ki 0)), (0, .ref x0), (1, .int x1)], v59.2)) rfl ?_
      obtain ⟨_, e62, hF⟩ := mm_bind hF
      obtain ⟨v63, e64, hF⟩ := mm_bind hF
      refine go_cV hX (As := [.int v3, .int v7]) (rv := some (.int v63.1)) (h2 := v63.2) (ci := 6) c_224 rfl (Nat.le_of_ble_eq_true rfl) rfl rfl e62 (by decide) (Nat.le_of_ble_eq_true rfl) (fun Q2 hQ2 => r_X6_levies hX (d := (d + 1)) e64 hQ2) ?_
      refine go_adv hX c_224 2 (F2 := (219, [.int (ki 0)], [(2, .int v63.1), (5, .int v11), (4, .int v7), (3, .int v3), (0, .ref x0), (1, .int x1)], v63.2)) rfl ?_
      cases hF
      exact go_iret hX c_224 rfl rfl (by decide) hQ
    · refine go_zf hX c_224 rfl (by decide) hc61 ?_
      refine go_adv hX c_224 1 (F2 := (209, [.int (ki 1)], [(5, .int v11), (4, .int v7), (3, .int v3), (2, .int (ki 0)), (0, .ref x0), (1, .int x1)], v59.2)) rfl ?_
      cases hF
      exact go_iret hX c_224 rfl rfl (by decide) hQ
  rcases mm_ite hF with ⟨hc65, hF⟩ | ⟨hc65, hF⟩
  · refine go_sw hX 220 c_224 rfl hc65 (by decide) (by decide +kernel) ?_
    refine go_adv hX c_224 2 (F2 := (222, [.int v3, .ref x0], [(5, .int v11), (4, .int v7), (3, .int v3), (2, .int (ki 0)), (0, .ref x0), (1, .int x1)], h)) rfl ?_
    obtain ⟨_, e66, hF⟩ := mm_bind hF
    obtain ⟨v67, e68, hF⟩ := mm_bind hF
    refine go_cV hX (As := [.int v3]) (rv := some (.int v67.1)) (h2 := v67.2) (ci := 6) c_224 rfl (Nat.le_of_ble_eq_true rfl) rfl rfl e66 (by decide) (Nat.le_of_ble_eq_true rfl) (fun Q2 hQ2 => r_X6_isRefusedTake hX (d := d) e68 hQ2) ?_
    rcases mm_ite hF with ⟨hc69, hF⟩ | ⟨hc69, hF⟩
    · refine go_zt hX 230 c_224 rfl rfl hc69 ?_
      refine go_adv hX c_224 2 (F2 := (232, [.int v3, .ref x0], [(5, .int v11), (4, .int v7), (3, .int v3), (2, .int (ki 0)), (0, .ref x0), (1, .int x1)], v67.2)) rfl ?_
      obtain ⟨_, e70, hF⟩ := mm_bind hF
      obtain ⟨v71, e72, hF⟩ := mm_bind hF
      refine go_cV hX (As := [.int v3]) (rv := some (.int v71.1)) (h2 := v71.2) (ci := 6) c_224 rfl (Nat.le_of_ble_eq_true rfl) rfl rfl e70 (by decide) (Nat.le_of_ble_eq_true rfl) (fun Q2 hQ2 => r_X6_takes hX (d := (d + 1)) e72 hQ2) ?_
      refine go_adv hX c_224 2 (F2 := (237, [.int (ki 0)], [(2, .int v71.1), (5, .int v11), (4, .int v7), (3, .int v3), (0, .ref x0), (1, .int x1)], v71.2)) rfl ?_
      cases hF
      exact go_iret hX c_224 rfl rfl (by decide) hQ
    · refine go_zf hX c_224 rfl (by decide) hc69 ?_
      refine go_adv hX c_224 1 (F2 := (229, [.int (ki 1)], [(5, .int v11), (4, .int v7), (3, .int v3), (2, .int (ki 0)), (0, .ref x0), (1, .int x1)], v67.2)) rfl ?_
      cases hF
      exact go_iret hX c_224 rfl rfl (by decide) hQ
  rcases mm_ite hF with ⟨hc73, hF⟩ | ⟨hc73, hF⟩
  · refine go_sw hX 238 c_224 rfl hc73 (by decide) (by decide +kernel) ?_
    refine go_adv hX c_224 3 (F2 := (242, [.int v7, .int v3, .ref x0], [(5, .int v11), (4, .int v7), (3, .int v3), (2, .int (ki 0)), (0, .ref x0), (1, .int x1)], h)) rfl ?_
    obtain ⟨_, e74, hF⟩ := mm_bind hF
    obtain ⟨v75, e76, hF⟩ := mm_bind hF
    refine go_cV hX (As := [.int v3, .int v7]) (rv := some (.int v75.1)) (h2 := v75.2) (ci := 6) c_224 rfl (Nat.le_of_ble_eq_true rfl) rfl rfl e74 (by decide) (Nat.le_of_ble_eq_true rfl) (fun Q2 hQ2 => r_X6_isRefusedCede hX (d := d) e76 hQ2) ?_
    rcases mm_ite hF with ⟨hc77, hF⟩ | ⟨hc77, hF⟩
    · refine go_zt hX 250 c_224 rfl rfl hc77 ?_
      refine go_adv hX c_224 3 (F2 := (254, [.int v7, .int v3, .ref x0], [(5, .int v11), (4, .int v7), (3, .int v3), (2, .int (ki 0)), (0, .ref x0), (1, .int x1)], v75.2)) rfl ?_
      obtain ⟨_, e78, hF⟩ := mm_bind hF
      obtain ⟨v79, e80, hF⟩ := mm_bind hF
      refine go_cV hX (As := [.int v3, .int v7]) (rv := some (.int v79.1)) (h2 := v79.2) (ci := 6) c_224 rfl (Nat.le_of_ble_eq_true rfl) rfl rfl e78 (by decide) (Nat.le_of_ble_eq_true rfl) (fun Q2 hQ2 => r_X6_cedes hX (d := (d + 1)) e80 hQ2) ?_
      refine go_adv hX c_224 2 (F2 := (259, [.int (ki 0)], [(2, .int v79.1), (5, .int v11), (4, .int v7), (3, .int v3), (0, .ref x0), (1, .int x1)], v79.2)) rfl ?_
      cases hF
      exact go_iret hX c_224 rfl rfl (by decide) hQ
    · refine go_zf hX c_224 rfl (by decide) hc77 ?_
      refine go_adv hX c_224 1 (F2 := (249, [.int (ki 1)], [(5, .int v11), (4, .int v7), (3, .int v3), (2, .int (ki 0)), (0, .ref x0), (1, .int x1)], v75.2)) rfl ?_
      cases hF
      exact go_iret hX c_224 rfl rfl (by decide) hQ
  refine go_swd hX 8 260 c_224 rfl (by decide) rfl (by decide) (fun i hi => match i, hi with | 0, _ => hc17 | 1, _ => hc25 | 2, _ => hc33 | 3, _ => hc41 | 4, _ => hc49 | 5, _ => hc57 | 6, _ => hc65 | 7, _ => hc73 | j + 8, hj => absurd hj (by omega)) (by decide) ?_
  refine go_adv hX c_224 1 (F2 := (261, [.ref x0], [(5, .int v11), (4, .int v7), (3, .int v3), (2, .int (ki 0)), (0, .ref x0), (1, .int x1)], h)) rfl ?_
  obtain ⟨_, e81, hF⟩ := mm_bind hF
  obtain ⟨v82, e83, hF⟩ := mm_bind hF
  refine go_cV hX (As := []) (rv := some (.int v82.1)) (h2 := v82.2) (ci := 6) c_224 rfl (Nat.le_of_ble_eq_true rfl) rfl rfl e81 (by decide) (Nat.le_of_ble_eq_true rfl) (fun Q2 hQ2 => r_X6_goesBy hX (d := d) e83 hQ2) ?_
  refine go_adv hX c_224 2 (F2 := (266, [.int (ki 0)], [(2, .int v82.1), (5, .int v11), (4, .int v7), (3, .int v3), (0, .ref x0), (1, .int x1)], v82.2)) rfl ?_
  cases hF
  exact go_iret hX c_224 rfl rfl (by decide) hQ
theorem c_225 : mm_cd 225 = k_X6_run := rfl
def F_X6_run_L42 : Nat → Nat → Int32 → mm_S → Option ((Int32 × mm_S) ⊕ mm_S)
  | 0, _, _, _ => none
  | n + 1, x0, x1, h =>
    (fx_gI h x0 6 22).bind fun v15 =>
    if v15 ≤ x1 then
      some (.inr h)
    else
      (fx_is h x0 6).bind fun _ =>
      (F_X6_cannot h x0 x1).bind fun v19 =>
      if v19.1 ≠ 0 then
        (fx_gR v19.2 x0 6 1).bind fun v22 =>
        (fx_gR v19.2 x0 6 0).bind fun v24 =>
        (F_X6_copies v19.2 v22 (ki 0) v24 (ki 0)).bind fun v26 =>
        (fx_gI v26 x0 6 7).bind fun v28 =>
        (fx_pV v26 x0 6 11 (.int v28)).bind fun h30 =>
        (fx_gI h30 x0 6 8).bind fun v32 =>
        (fx_pV h30 x0 6 12 (.int v32)).bind fun h34 =>
        (fx_pV h34 x0 6 9 (.int (kb 16))).bind fun h36 =>
        (fx_pV h36 x0 6 10 (.int x1)).bind fun h38 =>
        (fx_is h38 x0 6).bind fun _ =>
        (F_X6_no h38 x0 (ki 2)).bind fun v41 =>
        some (.inl (v41.1, v41.2))
      else
        F_X6_run_L42 n x0 (x1 + ki 1) v19.2
def F_X6_run_B24 (h : mm_S) (s0 : Int32) (s1 : Nat) (x0 : Nat) : Option (Int32 × mm_S) :=
  (fx_pV h s1 6 13 (.int s0)).bind fun h10 =>
  (fx_gI h10 x0 6 23).bind fun v12 =>
  if v12 = 0 then
    (F_X6_run_L42 1000 x0 (ki 0) h10).bind fun o43 => match o43 with
      | .inl o43r => some o43r
      | .inr o43e =>
        (fx_gI o43e x0 6 22).bind fun v45 =>
        (fx_is o43e x0 6).bind fun _ =>
        (F_X6_keeps o43e x0 v45).bind fun v48 =>
        some (v48.1, v48.2)
  else
    (fx_is h10 x0 6).bind fun _ =>
    (F_X6_no h10 x0 (ki 1)).bind fun v51 =>
    some (v51.1, v51.2)
def F_X6_run (h : mm_S) (x0 : Nat) : Option (Int32 × mm_S) :=
  (fx_is h x0 6).bind fun _ =>
  (F_X6_begins h x0).bind fun v2 =>
  (fx_is v2 x0 6).bind fun _ =>
  (F_X6_reads v2 x0).bind fun v5 =>
  (fx_gI v5 x0 6 23).bind fun v7 =>
  if v7 = 0 then
    F_X6_run_B24 v5 (ki (-1)) x0 x0
  else
    (fx_gI v5 x0 6 21).bind fun v53 =>
    F_X6_run_B24 v5 v53 x0 x0
theorem r_X6_run_L42 {X : mm_Cl} (hX : mm_mono X) {d c k : Nat} {Q : mm_Re → Prop} : ∀ (n : Nat) (x0 : Nat) (x1 : Int32) (h : mm_S) (o : ((Int32 × mm_S) ⊕ mm_S)), F_X6_run_L42 n x0 x1 h = some o → (∀ r, o = .inl r → Q (.inl (some (.int r.1)), r.2)) → (∀ e, o = .inr e → mm_Ex (mm_Run X (d + 5)) 225 Q (113, [], [(0, .ref x0)], e) c k) → mm_Ex (mm_Run X (d + 5)) 225 Q (42, [], [(0, .ref x0), (1, .int x1)], h) c k := by
  intro n
  induction n with
  | zero => intro x0 x1 h o hF; cases hF
  | succ n ih =>
    intro x0 x1 h o hF hR hE
    unfold F_X6_run_L42 at hF
    refine go_adv hX c_225 2 (F2 := (44, [.ref x0, .int x1], [(0, .ref x0), (1, .int x1)], h)) rfl ?_
    obtain ⟨v15, e16, hF⟩ := mm_bind hF
    refine go_gI hX c_225 rfl e16 ?_
    rcases mm_ite hF with ⟨hc17, hF⟩ | ⟨hc17, hF⟩
    · refine go_ct hX 113 c_225 rfl rfl hc17 ?_
      cases hF
      refine go_ls [(0, .ref x0)] ⟨rfl, trivial⟩ ?_
      exact hE _ rfl
    · refine go_cf hX c_225 rfl (by decide) hc17 ?_
      refine go_adv hX c_225 2 (F2 := (52, [.int x1, .ref x0], [(0, .ref x0), (1, .int x1)], h)) rfl ?_
      obtain ⟨_, e18, hF⟩ := mm_bind hF
      obtain ⟨v19, e20, hF⟩ := mm_bind hF
      refine go_cV hX (As := [.int x1]) (rv := some (.int v19.1)) (h2 := v19.2) (ci := 6) c_225 rfl (Nat.le_of_ble_eq_true rfl) rfl rfl e18 (by decide) (Nat.le_of_ble_eq_true rfl) (fun Q2 hQ2 => r_X6_cannot hX (d := d) e20 hQ2) ?_
      rcases mm_ite hF with ⟨hc21, hF⟩ | ⟨hc21, hF⟩
      · refine go_zt hX 61 c_225 rfl rfl hc21 ?_
        refine go_adv hX c_225 1 (F2 := (62, [.ref x0], [(0, .ref x0), (1, .int x1)], v19.2)) rfl ?_
        obtain ⟨v22, e23, hF⟩ := mm_bind hF
        refine go_gR hX c_225 rfl e23 ?_
        refine go_adv hX c_225 2 (F2 := (67, [.ref x0, .int (ki 0), .ref v22], [(0, .ref x0), (1, .int x1)], v19.2)) rfl ?_
        obtain ⟨v24, e25, hF⟩ := mm_bind hF
        refine go_gR hX c_225 rfl e25 ?_
        refine go_adv hX c_225 1 (F2 := (71, [.int (ki 0), .ref v24, .int (ki 0), .ref v22], [(0, .ref x0), (1, .int x1)], v19.2)) rfl ?_
        obtain ⟨v26, e27, hF⟩ := mm_bind hF
        refine go_cS hX (As := [.ref v22, .int (ki 0), .ref v24, .int (ki 0)]) (rv := none) (h2 := v26) c_225 rfl (by decide) (Nat.le_of_ble_eq_true rfl) rfl rfl (Nat.le_of_ble_eq_true rfl) (fun Q2 hQ2 => r_X6_copies hX (d := (d + 4)) e27 hQ2) ?_
        refine go_adv hX c_225 2 (F2 := (76, [.ref x0, .ref x0], [(0, .ref x0), (1, .int x1)], v26)) rfl ?_
        obtain ⟨v28, e29, hF⟩ := mm_bind hF
        refine go_gI hX c_225 rfl e29 ?_
        obtain ⟨h30, e31, hF⟩ := mm_bind hF
        refine go_pV hX c_225 rfl e31 ?_
        refine go_adv hX c_225 2 (F2 := (84, [.ref x0, .ref x0], [(0, .ref x0), (1, .int x1)], h30)) rfl ?_
        obtain ⟨v32, e33, hF⟩ := mm_bind hF
        refine go_gI hX c_225 rfl e33 ?_
        obtain ⟨h34, e35, hF⟩ := mm_bind hF
        refine go_pV hX c_225 rfl e35 ?_
        refine go_adv hX c_225 2 (F2 := (93, [.int (kb 16), .ref x0], [(0, .ref x0), (1, .int x1)], h34)) rfl ?_
        obtain ⟨h36, e37, hF⟩ := mm_bind hF
        refine go_pV hX c_225 rfl e37 ?_
        refine go_adv hX c_225 2 (F2 := (98, [.int x1, .ref x0], [(0, .ref x0), (1, .int x1)], h36)) rfl ?_
        obtain ⟨h38, e39, hF⟩ := mm_bind hF
        refine go_pV hX c_225 rfl e39 ?_
        refine go_adv hX c_225 2 (F2 := (103, [.int (ki 2), .ref x0], [(0, .ref x0), (1, .int x1)], h38)) rfl ?_
        obtain ⟨_, e40, hF⟩ := mm_bind hF
        obtain ⟨v41, e42, hF⟩ := mm_bind hF
        refine go_cV hX (As := [.int (ki 2)]) (rv := some (.int v41.1)) (h2 := v41.2) (ci := 6) c_225 rfl (Nat.le_of_ble_eq_true rfl) rfl rfl e40 (by decide) (Nat.le_of_ble_eq_true rfl) (fun Q2 hQ2 => r_X6_no hX (d := (d + 4)) e42 hQ2) ?_
        cases hF
        have hQ := hR _ rfl
        exact go_iret hX c_225 rfl rfl rfl hQ
      · refine go_zf hX c_225 rfl (by decide) hc21 ?_
        refine go_to hX 107 c_225 rfl rfl ?_
        refine go_adv hX c_225 1 (F2 := (110, [], [(1, .int (x1 + ki 1)), (0, .ref x0)], v19.2)) rfl ?_
        refine go_to hX 42 c_225 rfl rfl ?_
        refine go_ls [(0, .ref x0), (1, .int (x1 + ki 1))] ⟨rfl, ⟨rfl, trivial⟩⟩ ?_
        exact ih x0 (x1 + ki 1) v19.2 _ hF hR hE
theorem r_X6_run_B24 {X : mm_Cl} (hX : mm_mono X) {d c k : Nat} {Q : mm_Re → Prop} {h : mm_S} {s0 : Int32} {s1 : Nat} {x0 : Nat} {o : (Int32 × mm_S)} (hF : F_X6_run_B24 h s0 s1 x0 = some o) (hQ : Q (.inl (some (.int o.1)), o.2)) : mm_Ex (mm_Run X (d + 5)) 225 Q (24, [.int s0, .ref s1], [(0, .ref x0)], h) c k := by
  unfold F_X6_run_B24 at hF
  obtain ⟨h10, e11, hF⟩ := mm_bind hF
  refine go_pV hX c_225 rfl e11 ?_
  refine go_adv hX c_225 1 (F2 := (28, [.ref x0], [(0, .ref x0)], h10)) rfl ?_
  obtain ⟨v12, e13, hF⟩ := mm_bind hF
  refine go_gI hX c_225 rfl e13 ?_
  rcases mm_ite hF with ⟨hc14, hF⟩ | ⟨hc14, hF⟩
  · refine go_zt hX 40 c_225 rfl rfl hc14 ?_
    refine go_adv hX c_225 2 (F2 := (42, [], [(1, .int (ki 0)), (0, .ref x0)], h10)) rfl ?_
    refine go_ls [(0, .ref x0), (1, .int (ki 0))] ⟨rfl, ⟨rfl, trivial⟩⟩ ?_
    obtain ⟨o43, e44, hF⟩ := mm_bind hF
    refine r_X6_run_L42 hX 1000 x0 (ki 0) h10 o43 e44 ?_ ?_
    · intro o43r hr
      subst hr
      dsimp only at hF
      cases hF
      exact hQ
    · intro o43e he
      subst he
      dsimp only at hF
      refine go_adv hX c_225 2 (F2 := (115, [.ref x0, .ref x0], [(0, .ref x0)], o43e)) rfl ?_
      obtain ⟨v45, e46, hF⟩ := mm_bind hF
      refine go_gI hX c_225 rfl e46 ?_
      obtain ⟨_, e47, hF⟩ := mm_bind hF
      obtain ⟨v48, e49, hF⟩ := mm_bind hF
      refine go_cV hX (As := [.int v45]) (rv := some (.int v48.1)) (h2 := v48.2) (ci := 6) c_225 rfl (Nat.le_of_ble_eq_true rfl) rfl rfl e47 (by decide) (Nat.le_of_ble_eq_true rfl) (fun Q2 hQ2 => r_X6_keeps hX (d := (d + 3)) e49 hQ2) ?_
      cases hF
      exact go_iret hX c_225 rfl rfl rfl hQ
  · refine go_zf hX c_225 rfl (by decide) hc14 ?_
    refine go_adv hX c_225 2 (F2 := (36, [.int (ki 1), .ref x0], [(0, .ref x0)], h10)) rfl ?_
    obtain ⟨_, e50, hF⟩ := mm_bind hF
    obtain ⟨v51, e52, hF⟩ := mm_bind hF
    refine go_cV hX (As := [.int (ki 1)]) (rv := some (.int v51.1)) (h2 := v51.2) (ci := 6) c_225 rfl (Nat.le_of_ble_eq_true rfl) rfl rfl e50 (by decide) (Nat.le_of_ble_eq_true rfl) (fun Q2 hQ2 => r_X6_no hX (d := (d + 4)) e52 hQ2) ?_
    cases hF
    exact go_iret hX c_225 rfl rfl rfl hQ
theorem r_X6_run {X : mm_Cl} (hX : mm_mono X) {d c k : Nat} {Q : mm_Re → Prop} {h : mm_S} {x0 : Nat} {o : (Int32 × mm_S)} (hF : F_X6_run h x0 = some o) (hQ : Q (.inl (some (.int o.1)), o.2)) : mm_Run X (d + 6) 225 c k [.ref x0] h Q := by
  unfold F_X6_run at hF
  refine mm_Run_in (by decide) (by decide) (Nat.le_of_ble_eq_true rfl) ?_
  show mm_Ex (mm_Run X (d + 5)) 225 Q (0, [], [(0, .ref x0)], h) c k
  refine go_adv hX c_225 1 (F2 := (1, [.ref x0], [(0, .ref x0)], h)) rfl ?_
  obtain ⟨_, e1, hF⟩ := mm_bind hF
  obtain ⟨v2, e3, hF⟩ := mm_bind hF
  refine go_cV hX (As := []) (rv := none) (h2 := v2) (ci := 6) c_225 rfl (Nat.le_of_ble_eq_true rfl) rfl rfl e1 (by decide) (Nat.le_of_ble_eq_true rfl) (fun Q2 hQ2 => r_X6_begins hX (d := (d + 3)) e3 hQ2) ?_
  refine go_adv hX c_225 1 (F2 := (5, [.ref x0], [(0, .ref x0)], v2)) rfl ?_
  obtain ⟨_, e4, hF⟩ := mm_bind hF
  obtain ⟨v5, e6, hF⟩ := mm_bind hF
  refine go_cV hX (As := []) (rv := none) (h2 := v5) (ci := 6) c_225 rfl (Nat.le_of_ble_eq_true rfl) rfl rfl e4 (by decide) (Nat.le_of_ble_eq_true rfl) (fun Q2 hQ2 => r_X6_reads hX (d := d) e6 hQ2) ?_
  refine go_adv hX c_225 2 (F2 := (10, [.ref x0, .ref x0], [(0, .ref x0)], v5)) rfl ?_
  obtain ⟨v7, e8, hF⟩ := mm_bind hF
  refine go_gI hX c_225 rfl e8 ?_
  rcases mm_ite hF with ⟨hc9, hF⟩ | ⟨hc9, hF⟩
  · refine go_zt hX 23 c_225 rfl rfl hc9 ?_
    refine go_adv hX c_225 1 (F2 := (24, [.int (ki (-1)), .ref x0], [(0, .ref x0)], v5)) rfl ?_
    refine go_ls [(0, .ref x0)] ⟨rfl, trivial⟩ ?_
    exact r_X6_run_B24 hX hF hQ
  · refine go_zf hX c_225 rfl (by decide) hc9 ?_
    refine go_adv hX c_225 1 (F2 := (17, [.ref x0, .ref x0], [(0, .ref x0)], v5)) rfl ?_
    obtain ⟨v53, e54, hF⟩ := mm_bind hF
    refine go_gI hX c_225 rfl e54 ?_
    refine go_to hX 24 c_225 rfl rfl ?_
    refine go_ls [(0, .ref x0)] ⟨rfl, trivial⟩ ?_
    exact r_X6_run_B24 hX hF hQ
theorem c_226 : mm_cd 226 = k_X6_faultPosition := rfl
def F_X6_faultPosition (h : mm_S) (x0 : Nat) : Option (Int32 × mm_S) :=
  (fx_pV h x0 6 5 (.int (ki 0))).bind fun h1 =>
  (fx_gI h1 x0 6 13).bind fun v3 =>
  some (v3, h1)
theorem r_X6_faultPosition {X : mm_Cl} (hX : mm_mono X) {d c k : Nat} {Q : mm_Re → Prop} {h : mm_S} {x0 : Nat} {o : (Int32 × mm_S)} (hF : F_X6_faultPosition h x0 = some o) (hQ : Q (.inl (some (.int o.1)), o.2)) : mm_Run X (d + 1) 226 c k [.ref x0] h Q := by
  unfold F_X6_faultPosition at hF
  refine mm_Run_in (by decide) (by decide) (Nat.le_of_ble_eq_true rfl) ?_
  show mm_Ex (mm_Run X d) 226 Q (0, [], [(0, .ref x0)], h) c k
  refine go_adv hX c_226 2 (F2 := (2, [.int (ki 0), .ref x0], [(0, .ref x0)], h)) rfl ?_
  obtain ⟨h1, e2, hF⟩ := mm_bind hF
  refine go_pV hX c_226 rfl e2 ?_
  refine go_adv hX c_226 1 (F2 := (6, [.ref x0], [(0, .ref x0)], h1)) rfl ?_
  obtain ⟨v3, e4, hF⟩ := mm_bind hF
  refine go_gI hX c_226 rfl e4 ?_
  cases hF
  exact go_iret hX c_226 rfl rfl rfl hQ
theorem c_227 : mm_cd 227 = k_X6_reason := rfl
def F_X6_reason_B36 (h : mm_S) (s0 : Int32) (x0 : Nat) (x1 : Int32) (x2 : Int32) : Option (Int32 × mm_S) :=
  if s0 ≠ 0 then
    if x2 ≠ 0 then
      if x1 ≠ (ki 1) then
        (fx_gI h x0 6 10).bind fun v12 =>
        some (v12, h)
      else
        (fx_gI h x0 6 12).bind fun v14 =>
        some (v14, h)
    else
      some (s0, h)
  else
    (fx_is h x0 6).bind fun _ =>
    (F_X6_no h x0 (ki 2)).bind fun v17 =>
    some (v17.1, v17.2)
def F_X6_reason (h : mm_S) (x0 : Nat) (x1 : Int32) (x2 : Int32) : Option (Int32 × mm_S) :=
  (fx_pV h x0 6 5 (.int (ki 0))).bind fun h1 =>
  (F_X6_in h1 x1 (ki 0) (ki 1)).bind fun v3 =>
  if v3 ≠ 0 then
    if x1 ≠ (ki 1) then
      (fx_gI h1 x0 6 9).bind fun v7 =>
      F_X6_reason_B36 h1 v7 x0 x1 x2
    else
      (fx_gI h1 x0 6 11).bind fun v19 =>
      F_X6_reason_B36 h1 v19 x0 x1 x2
  else
    (fx_is h1 x0 6).bind fun _ =>
    (F_X6_no h1 x0 (ki 1)).bind fun v22 =>
    some (v22.1, v22.2)
theorem r_X6_reason_B36 {X : mm_Cl} (hX : mm_mono X) {d c k : Nat} {Q : mm_Re → Prop} {h : mm_S} {s0 : Int32} {x0 : Nat} {x1 : Int32} {x2 : Int32} {o : (Int32 × mm_S)} (hF : F_X6_reason_B36 h s0 x0 x1 x2 = some o) (hQ : Q (.inl (some (.int o.1)), o.2)) : mm_Ex (mm_Run X (d + 1)) 227 Q (36, [.int s0], [(0, .ref x0), (1, .int x1), (2, .int x2)], h) c k := by
  unfold F_X6_reason_B36 at hF
  refine go_adv hX c_227 2 (F2 := (38, [.int s0], [(3, .int s0), (0, .ref x0), (1, .int x1), (2, .int x2)], h)) rfl ?_
  rcases mm_ite hF with ⟨hc9, hF⟩ | ⟨hc9, hF⟩
  · refine go_zt hX 47 c_227 rfl rfl hc9 ?_
    refine go_adv hX c_227 1 (F2 := (48, [.int x2], [(3, .int s0), (0, .ref x0), (1, .int x1), (2, .int x2)], h)) rfl ?_
    rcases mm_ite hF with ⟨hc10, hF⟩ | ⟨hc10, hF⟩
    · refine go_zt hX 55 c_227 rfl rfl hc10 ?_
      refine go_adv hX c_227 2 (F2 := (57, [.int (ki 1), .int x1], [(3, .int s0), (0, .ref x0), (1, .int x1), (2, .int x2)], h)) rfl ?_
      rcases mm_ite hF with ⟨hc11, hF⟩ | ⟨hc11, hF⟩
      · refine go_ct hX 67 c_227 rfl rfl hc11 ?_
        refine go_adv hX c_227 1 (F2 := (68, [.ref x0], [(3, .int s0), (0, .ref x0), (1, .int x1), (2, .int x2)], h)) rfl ?_
        obtain ⟨v12, e13, hF⟩ := mm_bind hF
        refine go_gI hX c_227 rfl e13 ?_
        cases hF
        exact go_iret hX c_227 rfl rfl rfl hQ
      · refine go_cf hX c_227 rfl (by decide) hc11 ?_
        refine go_adv hX c_227 1 (F2 := (61, [.ref x0], [(3, .int s0), (0, .ref x0), (1, .int x1), (2, .int x2)], h)) rfl ?_
        obtain ⟨v14, e15, hF⟩ := mm_bind hF
        refine go_gI hX c_227 rfl e15 ?_
        refine go_to hX 71 c_227 rfl rfl ?_
        cases hF
        exact go_iret hX c_227 rfl rfl rfl hQ
    · refine go_zf hX c_227 rfl (by decide) hc10 ?_
      refine go_adv hX c_227 1 (F2 := (52, [.int s0], [(3, .int s0), (0, .ref x0), (1, .int x1), (2, .int x2)], h)) rfl ?_
      refine go_to hX 71 c_227 rfl rfl ?_
      cases hF
      exact go_iret hX c_227 rfl rfl rfl hQ
  · refine go_zf hX c_227 rfl (by decide) hc9 ?_
    refine go_adv hX c_227 2 (F2 := (43, [.int (ki 2), .ref x0], [(3, .int s0), (0, .ref x0), (1, .int x1), (2, .int x2)], h)) rfl ?_
    obtain ⟨_, e16, hF⟩ := mm_bind hF
    obtain ⟨v17, e18, hF⟩ := mm_bind hF
    refine go_cV hX (As := [.int (ki 2)]) (rv := some (.int v17.1)) (h2 := v17.2) (ci := 6) c_227 rfl (Nat.le_of_ble_eq_true rfl) rfl rfl e16 (by decide) (Nat.le_of_ble_eq_true rfl) (fun Q2 hQ2 => r_X6_no hX (d := d) e18 hQ2) ?_
    cases hF
    exact go_iret hX c_227 rfl rfl rfl hQ
theorem r_X6_reason {X : mm_Cl} (hX : mm_mono X) {d c k : Nat} {Q : mm_Re → Prop} {h : mm_S} {x0 : Nat} {x1 : Int32} {x2 : Int32} {o : (Int32 × mm_S)} (hF : F_X6_reason h x0 x1 x2 = some o) (hQ : Q (.inl (some (.int o.1)), o.2)) : mm_Run X (d + 2) 227 c k [.ref x0, .int x1, .int x2] h Q := by
  unfold F_X6_reason at hF
  refine mm_Run_in (by decide) (by decide) (Nat.le_of_ble_eq_true rfl) ?_
  show mm_Ex (mm_Run X (d + 1)) 227 Q (0, [], [(0, .ref x0), (1, .int x1), (2, .int x2)], h) c k
  refine go_adv hX c_227 2 (F2 := (2, [.int (ki 0), .ref x0], [(0, .ref x0), (1, .int x1), (2, .int x2)], h)) rfl ?_
  obtain ⟨h1, e2, hF⟩ := mm_bind hF
  refine go_pV hX c_227 rfl e2 ?_
  refine go_adv hX c_227 3 (F2 := (8, [.int (ki 1), .int (ki 0), .int x1], [(0, .ref x0), (1, .int x1), (2, .int x2)], h1)) rfl ?_
  obtain ⟨v3, e4, hF⟩ := mm_bind hF
  refine go_cS hX (As := [.int x1, .int (ki 0), .int (ki 1)]) (rv := some (.int v3)) (h2 := h1) c_227 rfl (by decide) (Nat.le_of_ble_eq_true rfl) rfl rfl (Nat.le_of_ble_eq_true rfl) (fun Q2 hQ2 => r_X6_in hX (d := d) e4 hQ2) ?_
  rcases mm_ite hF with ⟨hc5, hF⟩ | ⟨hc5, hF⟩
  · refine go_zt hX 20 c_227 rfl rfl hc5 ?_
    refine go_adv hX c_227 2 (F2 := (22, [.int (ki 1), .int x1], [(0, .ref x0), (1, .int x1), (2, .int x2)], h1)) rfl ?_
    rcases mm_ite hF with ⟨hc6, hF⟩ | ⟨hc6, hF⟩
    · refine go_ct hX 32 c_227 rfl rfl hc6 ?_
      refine go_adv hX c_227 1 (F2 := (33, [.ref x0], [(0, .ref x0), (1, .int x1), (2, .int x2)], h1)) rfl ?_
      obtain ⟨v7, e8, hF⟩ := mm_bind hF
      refine go_gI hX c_227 rfl e8 ?_
      refine go_ls [(0, .ref x0), (1, .int x1), (2, .int x2)] ⟨rfl, ⟨rfl, ⟨rfl, trivial⟩⟩⟩ ?_
      exact r_X6_reason_B36 hX hF hQ
    · refine go_cf hX c_227 rfl (by decide) hc6 ?_
      refine go_adv hX c_227 1 (F2 := (26, [.ref x0], [(0, .ref x0), (1, .int x1), (2, .int x2)], h1)) rfl ?_
      obtain ⟨v19, e20, hF⟩ := mm_bind hF
      refine go_gI hX c_227 rfl e20 ?_
      refine go_to hX 36 c_227 rfl rfl ?_
      refine go_ls [(0, .ref x0), (1, .int x1), (2, .int x2)] ⟨rfl, ⟨rfl, ⟨rfl, trivial⟩⟩⟩ ?_
      exact r_X6_reason_B36 hX hF hQ
  · refine go_zf hX c_227 rfl (by decide) hc5 ?_
    refine go_adv hX c_227 2 (F2 := (16, [.int (ki 1), .ref x0], [(0, .ref x0), (1, .int x1), (2, .int x2)], h1)) rfl ?_
    obtain ⟨_, e21, hF⟩ := mm_bind hF
    obtain ⟨v22, e23, hF⟩ := mm_bind hF
    refine go_cV hX (As := [.int (ki 1)]) (rv := some (.int v22.1)) (h2 := v22.2) (ci := 6) c_227 rfl (Nat.le_of_ble_eq_true rfl) rfl rfl e21 (by decide) (Nat.le_of_ble_eq_true rfl) (fun Q2 hQ2 => r_X6_no hX (d := d) e23 hQ2) ?_
    cases hF
    exact go_iret hX c_227 rfl rfl rfl hQ
theorem c_228 : mm_cd 228 = k_X6_writes := rfl
def F_X6_writes (h : mm_S) (x0 : Nat) (x1 : Int32) : Option mm_S :=
  (fx_gR h x0 6 24).bind fun v1 =>
  (fx_gI h x0 6 25).bind fun v3 =>
  (fx_sI h v1 v3 x1).bind fun h5 =>
  (fx_gI h5 x0 6 25).bind fun v7 =>
  (fx_pV h5 x0 6 25 (.int (v7 + (ki 1)))).bind fun h9 =>
  some h9
theorem r_X6_writes {X : mm_Cl} (hX : mm_mono X) {d c k : Nat} {Q : mm_Re → Prop} {h : mm_S} {x0 : Nat} {x1 : Int32} {o : mm_S} (hF : F_X6_writes h x0 x1 = some o) (hQ : Q (.inl none, o)) : mm_Run X (d + 1) 228 c k [.ref x0, .int x1] h Q := by
  unfold F_X6_writes at hF
  refine mm_Run_in (by decide) (by decide) (Nat.le_of_ble_eq_true rfl) ?_
  show mm_Ex (mm_Run X d) 228 Q (0, [], [(0, .ref x0), (1, .int x1)], h) c k
  refine go_adv hX c_228 1 (F2 := (1, [.ref x0], [(0, .ref x0), (1, .int x1)], h)) rfl ?_
  obtain ⟨v1, e2, hF⟩ := mm_bind hF
  refine go_gR hX c_228 rfl e2 ?_
  refine go_adv hX c_228 1 (F2 := (5, [.ref x0, .ref v1], [(0, .ref x0), (1, .int x1)], h)) rfl ?_
  obtain ⟨v3, e4, hF⟩ := mm_bind hF
  refine go_gI hX c_228 rfl e4 ?_
  refine go_adv hX c_228 1 (F2 := (9, [.int x1, .int v3, .ref v1], [(0, .ref x0), (1, .int x1)], h)) rfl ?_
  obtain ⟨h5, e6, hF⟩ := mm_bind hF
  refine go_sI hX c_228 rfl e6 ?_
  refine go_adv hX c_228 1 (F2 := (11, [.ref x0], [(0, .ref x0), (1, .int x1)], h5)) rfl ?_
  refine go_p hX c_228 rfl rfl rfl ?_
  obtain ⟨v7, e8, hF⟩ := mm_bind hF
  refine go_gI hX c_228 rfl e8 ?_
  refine go_adv hX c_228 2 (F2 := (17, [.int (v7 + (ki 1)), .ref x0], [(0, .ref x0), (1, .int x1)], h5)) rfl ?_
  obtain ⟨h9, e10, hF⟩ := mm_bind hF
  refine go_pV hX c_228 rfl e10 ?_
  cases hF
  exact go_ret hX c_228 rfl rfl hQ
theorem c_229 : mm_cd 229 = k_X6_writesNumber := rfl
def F_X6_writesNumber_L2 : Nat → Nat → Int32 → Int32 → mm_S → Option (Int32 × mm_S)
  | 0, _, _, _, _ => none
  | n + 1, x0, x1, x2, h =>
    (fx_div x1 x2).bind fun v1 =>
    if v1 ≤ (kb 9) then
      some ((x2, h))
    else
      F_X6_writesNumber_L2 n x0 x1 (x2 * (kb 10)) h
def F_X6_writesNumber_L18 : Nat → Nat → Int32 → Int32 → mm_S → Option mm_S
  | 0, _, _, _, _ => none
  | n + 1, x0, x1, x2, h =>
    if x2 ≤ 0 then
      some h
    else
      (fx_div x1 x2).bind fun v7 =>
      (fx_rem v7 (kb 10)).bind fun v9 =>
      (fx_is h x0 6).bind fun _ =>
      (F_X6_writes h x0 ((kb 48) + v9)).bind fun v12 =>
      (fx_div x2 (kb 10)).bind fun v14 =>
      F_X6_writesNumber_L18 n x0 x1 v14 v12
def F_X6_writesNumber (h : mm_S) (x0 : Nat) (x1 : Int32) : Option mm_S :=
  (F_X6_writesNumber_L2 1000 x0 x1 (ki 1) h).bind fun o4 =>
  (F_X6_writesNumber_L18 1000 x0 x1 o4.1 o4.2).bind fun o16 =>
  some o16
theorem r_X6_writesNumber_L2 {X : mm_Cl} (hX : mm_mono X) {d c k : Nat} {Q : mm_Re → Prop} : ∀ (n : Nat) (x0 : Nat) (x1 : Int32) (x2 : Int32) (h : mm_S) (o : (Int32 × mm_S)), F_X6_writesNumber_L2 n x0 x1 x2 h = some o → (mm_Ex (mm_Run X (d + 1)) 229 Q (18, [], [(0, .ref x0), (1, .int x1), (2, .int o.1)], o.2) c k) → mm_Ex (mm_Run X (d + 1)) 229 Q (2, [], [(0, .ref x0), (1, .int x1), (2, .int x2)], h) c k := by
  intro n
  induction n with
  | zero => intro x0 x1 x2 h o hF; cases hF
  | succ n ih =>
    intro x0 x1 x2 h o hF hE
    unfold F_X6_writesNumber_L2 at hF
    refine go_adv hX c_229 2 (F2 := (4, [.int x2, .int x1], [(0, .ref x0), (1, .int x1), (2, .int x2)], h)) rfl ?_
    obtain ⟨v1, e2, hF⟩ := mm_bind hF
    refine go_div hX c_229 rfl e2 ?_
    refine go_adv hX c_229 1 (F2 := (7, [.int (kb 9), .int v1], [(0, .ref x0), (1, .int x1), (2, .int x2)], h)) rfl ?_
    rcases mm_ite hF with ⟨hc3, hF⟩ | ⟨hc3, hF⟩
    · refine go_ct hX 18 c_229 rfl rfl hc3 ?_
      cases hF
      refine go_ls [(0, .ref x0), (1, .int x1), (2, .int x2)] ⟨rfl, ⟨rfl, ⟨rfl, trivial⟩⟩⟩ ?_
      exact hE
    · refine go_cf hX c_229 rfl (by decide) hc3 ?_
      refine go_adv hX c_229 4 (F2 := (15, [], [(2, .int (x2 * (kb 10))), (0, .ref x0), (1, .int x1)], h)) rfl ?_
      refine go_to hX 2 c_229 rfl rfl ?_
      refine go_ls [(0, .ref x0), (1, .int x1), (2, .int (x2 * (kb 10)))] ⟨rfl, ⟨rfl, ⟨rfl, trivial⟩⟩⟩ ?_
      exact ih x0 x1 (x2 * (kb 10)) h _ hF hE
theorem r_X6_writesNumber_L18 {X : mm_Cl} (hX : mm_mono X) {d c k : Nat} {Q : mm_Re → Prop} : ∀ (n : Nat) (x0 : Nat) (x1 : Int32) (x2 : Int32) (h : mm_S) (o : mm_S), F_X6_writesNumber_L18 n x0 x1 x2 h = some o → (mm_Ex (mm_Run X (d + 1)) 229 Q (43, [], [], o) c k) → mm_Ex (mm_Run X (d + 1)) 229 Q (18, [], [(0, .ref x0), (1, .int x1), (2, .int x2)], h) c k := by
  intro n
  induction n with
  | zero => intro x0 x1 x2 h o hF; cases hF
  | succ n ih =>
    intro x0 x1 x2 h o hF hE
    unfold F_X6_writesNumber_L18 at hF
    refine go_adv hX c_229 1 (F2 := (19, [.int x2], [(0, .ref x0), (1, .int x1), (2, .int x2)], h)) rfl ?_
    rcases mm_ite hF with ⟨hc6, hF⟩ | ⟨hc6, hF⟩
    · refine go_zt hX 43 c_229 rfl rfl hc6 ?_
      cases hF
      refine go_ls [] trivial ?_
      exact hE
    · refine go_zf hX c_229 rfl (by decide) hc6 ?_
      refine go_adv hX c_229 4 (F2 := (27, [.int x2, .int x1, .int (kb 48), .ref x0], [(0, .ref x0), (1, .int x1), (2, .int x2)], h)) rfl ?_
      obtain ⟨v7, e8, hF⟩ := mm_bind hF
      refine go_div hX c_229 rfl e8 ?_
      refine go_adv hX c_229 1 (F2 := (30, [.int (kb 10), .int v7, .int (kb 48), .ref x0], [(0, .ref x0), (1, .int x1), (2, .int x2)], h)) rfl ?_
      obtain ⟨v9, e10, hF⟩ := mm_bind hF
      refine go_rem hX c_229 rfl e10 ?_
      refine go_adv hX c_229 1 (F2 := (32, [.int ((kb 48) + v9), .ref x0], [(0, .ref x0), (1, .int x1), (2, .int x2)], h)) rfl ?_
      obtain ⟨_, e11, hF⟩ := mm_bind hF
      obtain ⟨v12, e13, hF⟩ := mm_bind hF
      refine go_cV hX (As := [.int ((kb 48) + v9)]) (rv := none) (h2 := v12) (ci := 6) c_229 rfl (Nat.le_of_ble_eq_true rfl) rfl rfl e11 (by decide) (Nat.le_of_ble_eq_true rfl) (fun Q2 hQ2 => r_X6_writes hX (d := d) e13 hQ2) ?_
      refine go_adv hX c_229 2 (F2 := (38, [.int (kb 10), .int x2], [(0, .ref x0), (1, .int x1), (2, .int x2)], v12)) rfl ?_
      obtain ⟨v14, e15, hF⟩ := mm_bind hF
      refine go_div hX c_229 rfl e15 ?_
      refine go_adv hX c_229 1 (F2 := (40, [], [(2, .int v14), (0, .ref x0), (1, .int x1)], v12)) rfl ?_
      refine go_to hX 18 c_229 rfl rfl ?_
      refine go_ls [(0, .ref x0), (1, .int x1), (2, .int v14)] ⟨rfl, ⟨rfl, ⟨rfl, trivial⟩⟩⟩ ?_
      exact ih x0 x1 v14 v12 _ hF hE
theorem r_X6_writesNumber {X : mm_Cl} (hX : mm_mono X) {d c k : Nat} {Q : mm_Re → Prop} {h : mm_S} {x0 : Nat} {x1 : Int32} {o : mm_S} (hF : F_X6_writesNumber h x0 x1 = some o) (hQ : Q (.inl none, o)) : mm_Run X (d + 2) 229 c k [.ref x0, .int x1] h Q := by
  unfold F_X6_writesNumber at hF
  refine mm_Run_in (by decide) (by decide) (Nat.le_of_ble_eq_true rfl) ?_
  show mm_Ex (mm_Run X (d + 1)) 229 Q (0, [], [(0, .ref x0), (1, .int x1)], h) c k
  refine go_adv hX c_229 2 (F2 := (2, [], [(2, .int (ki 1)), (0, .ref x0), (1, .int x1)], h)) rfl ?_
  refine go_ls [(0, .ref x0), (1, .int x1), (2, .int (ki 1))] ⟨rfl, ⟨rfl, ⟨rfl, trivial⟩⟩⟩ ?_
  obtain ⟨o4, e5, hF⟩ := mm_bind hF
  refine r_X6_writesNumber_L2 hX 1000 x0 x1 (ki 1) h o4 e5 ?_
  refine go_ls [(0, .ref x0), (1, .int x1), (2, .int o4.1)] ⟨rfl, ⟨rfl, ⟨rfl, trivial⟩⟩⟩ ?_
  obtain ⟨o16, e17, hF⟩ := mm_bind hF
  refine r_X6_writesNumber_L18 hX 1000 x0 x1 o4.1 o4.2 o16 e17 ?_
  cases hF
  exact go_ret hX c_229 rfl rfl hQ
theorem c_230 : mm_cd 230 = k_X6_tellGiant := rfl
def F_X6_tellGiant_B13 (h : mm_S) (s0 : Int32) (s1 : Nat) (x0 : Nat) (x1 : Int32) : Option (Int32 × mm_S) :=
  (fx_pV h s1 6 5 (.int s0)).bind fun h4 =>
  (fx_gI h4 x0 6 5).bind fun v6 =>
  if v6 ≤ 0 then
    (fx_pV h4 x0 6 25 (.int (ki 0))).bind fun h9 =>
    (fx_is h9 x0 6).bind fun _ =>
    (F_X6_writesNumber h9 x0 x1).bind fun v12 =>
    (fx_is v12 x0 6).bind fun _ =>
    (F_X6_writes v12 x0 (kb 64)).bind fun v15 =>
    (fx_is v15 x0 6).bind fun _ =>
    (F_X6_gv v15 x0 x1 (ki 1)).bind fun v18 =>
    (fx_is v15 x0 6).bind fun _ =>
    (F_X6_writesNumber v15 x0 v18).bind fun v21 =>
    (fx_is v21 x0 6).bind fun _ =>
    (F_X6_writes v21 x0 (kb 36)).bind fun v24 =>
    (fx_is v24 x0 6).bind fun _ =>
    (F_X6_gv v24 x0 x1 (ki 0)).bind fun v27 =>
    (fx_is v24 x0 6).bind fun _ =>
    (F_X6_writesNumber v24 x0 v27).bind fun v30 =>
    (fx_gR v30 x0 6 0).bind fun v32 =>
    (fx_aI v30 v32 (ki 3)).bind fun v34 =>
    if v34 ≠ x1 then
      (fx_gI v30 x0 6 25).bind fun v37 =>
      some (v37, v30)
    else
      (fx_is v30 x0 6).bind fun _ =>
      (F_X6_writes v30 x0 (kb 33)).bind fun v40 =>
      (fx_gI v40 x0 6 25).bind fun v42 =>
      some (v42, v40)
  else
    some (ki 0, h4)
def F_X6_tellGiant (h : mm_S) (x0 : Nat) (x1 : Int32) : Option (Int32 × mm_S) :=
  (F_X6_isGiant h x1).bind fun v1 =>
  if v1 = 0 then
    F_X6_tellGiant_B13 h (ki 1) x0 x0 x1
  else
    F_X6_tellGiant_B13 h (ki 0) x0 x0 x1
theorem r_X6_tellGiant_B13 {X : mm_Cl} (hX : mm_mono X) {d c k : Nat} {Q : mm_Re → Prop} {h : mm_S} {s0 : Int32} {s1 : Nat} {x0 : Nat} {x1 : Int32} {o : (Int32 × mm_S)} (hF : F_X6_tellGiant_B13 h s0 s1 x0 x1 = some o) (hQ : Q (.inl (some (.int o.1)), o.2)) : mm_Ex (mm_Run X (d + 2)) 230 Q (13, [.int s0, .ref s1], [(0, .ref x0), (1, .int x1)], h) c k := by
  unfold F_X6_tellGiant_B13 at hF
  obtain ⟨h4, e5, hF⟩ := mm_bind hF
  refine go_pV hX c_230 rfl e5 ?_
  refine go_adv hX c_230 1 (F2 := (17, [.ref x0], [(0, .ref x0), (1, .int x1)], h4)) rfl ?_
  obtain ⟨v6, e7, hF⟩ := mm_bind hF
  refine go_gI hX c_230 rfl e7 ?_
  rcases mm_ite hF with ⟨hc8, hF⟩ | ⟨hc8, hF⟩
  · refine go_zt hX 25 c_230 rfl rfl hc8 ?_
    refine go_adv hX c_230 2 (F2 := (27, [.int (ki 0), .ref x0], [(0, .ref x0), (1, .int x1)], h4)) rfl ?_
    obtain ⟨h9, e10, hF⟩ := mm_bind hF
    refine go_pV hX c_230 rfl e10 ?_
    refine go_adv hX c_230 2 (F2 := (32, [.int x1, .ref x0], [(0, .ref x0), (1, .int x1)], h9)) rfl ?_
    obtain ⟨_, e11, hF⟩ := mm_bind hF
    obtain ⟨v12, e13, hF⟩ := mm_bind hF
    refine go_cV hX (As := [.int x1]) (rv := none) (h2 := v12) (ci := 6) c_230 rfl (Nat.le_of_ble_eq_true rfl) rfl rfl e11 (by decide) (Nat.le_of_ble_eq_true rfl) (fun Q2 hQ2 => r_X6_writesNumber hX (d := d) e13 hQ2) ?_
    refine go_adv hX c_230 2 (F2 := (38, [.int (kb 64), .ref x0], [(0, .ref x0), (1, .int x1)], v12)) rfl ?_
    obtain ⟨_, e14, hF⟩ := mm_bind hF
    obtain ⟨v15, e16, hF⟩ := mm_bind hF
    refine go_cV hX (As := [.int (kb 64)]) (rv := none) (h2 := v15) (ci := 6) c_230 rfl (Nat.le_of_ble_eq_true rfl) rfl rfl e14 (by decide) (Nat.le_of_ble_eq_true rfl) (fun Q2 hQ2 => r_X6_writes hX (d := (d + 1)) e16 hQ2) ?_
    refine go_adv hX c_230 4 (F2 := (45, [.int (ki 1), .int x1, .ref x0, .ref x0], [(0, .ref x0), (1, .int x1)], v15)) rfl ?_
    obtain ⟨_, e17, hF⟩ := mm_bind hF
    obtain ⟨v18, e19, hF⟩ := mm_bind hF
    refine go_cV hX (As := [.int x1, .int (ki 1)]) (rv := some (.int v18)) (h2 := v15) (ci := 6) c_230 rfl (Nat.le_of_ble_eq_true rfl) rfl rfl e17 (by decide) (Nat.le_of_ble_eq_true rfl) (fun Q2 hQ2 => r_X6_gv hX (d := (d + 1)) e19 hQ2) ?_
    obtain ⟨_, e20, hF⟩ := mm_bind hF
    obtain ⟨v21, e22, hF⟩ := mm_bind hF
    refine go_cV hX (As := [.int v18]) (rv := none) (h2 := v21) (ci := 6) c_230 rfl (Nat.le_of_ble_eq_true rfl) rfl rfl e20 (by decide) (Nat.le_of_ble_eq_true rfl) (fun Q2 hQ2 => r_X6_writesNumber hX (d := d) e22 hQ2) ?_
    refine go_adv hX c_230 2 (F2 := (54, [.int (kb 36), .ref x0], [(0, .ref x0), (1, .int x1)], v21)) rfl ?_
    obtain ⟨_, e23, hF⟩ := mm_bind hF
    obtain ⟨v24, e25, hF⟩ := mm_bind hF
    refine go_cV hX (As := [.int (kb 36)]) (rv := none) (h2 := v24) (ci := 6) c_230 rfl (Nat.le_of_ble_eq_true rfl) rfl rfl e23 (by decide) (Nat.le_of_ble_eq_true rfl) (fun Q2 hQ2 => r_X6_writes hX (d := (d + 1)) e25 hQ2) ?_
    refine go_adv hX c_230 4 (F2 := (61, [.int (ki 0), .int x1, .ref x0, .ref x0], [(0, .ref x0), (1, .int x1)], v24)) rfl ?_
    obtain ⟨_, e26, hF⟩ := mm_bind hF
    obtain ⟨v27, e28, hF⟩ := mm_bind hF
    refine go_cV hX (As := [.int x1, .int (ki 0)]) (rv := some (.int v27)) (h2 := v24) (ci := 6) c_230 rfl (Nat.le_of_ble_eq_true rfl) rfl rfl e26 (by decide) (Nat.le_of_ble_eq_true rfl) (fun Q2 hQ2 => r_X6_gv hX (d := (d + 1)) e28 hQ2) ?_
    obtain ⟨_, e29, hF⟩ := mm_bind hF
    obtain ⟨v30, e31, hF⟩ := mm_bind hF
    refine go_cV hX (As := [.int v27]) (rv := none) (h2 := v30) (ci := 6) c_230 rfl (Nat.le_of_ble_eq_true rfl) rfl rfl e29 (by decide) (Nat.le_of_ble_eq_true rfl) (fun Q2 hQ2 => r_X6_writesNumber hX (d := d) e31 hQ2) ?_
    refine go_adv hX c_230 1 (F2 := (68, [.ref x0], [(0, .ref x0), (1, .int x1)], v30)) rfl ?_
    obtain ⟨v32, e33, hF⟩ := mm_bind hF
    refine go_gR hX c_230 rfl e33 ?_
    refine go_adv hX c_230 1 (F2 := (72, [.int (ki 3), .ref v32], [(0, .ref x0), (1, .int x1)], v30)) rfl ?_
    obtain ⟨v34, e35, hF⟩ := mm_bind hF
    refine go_aI hX c_230 rfl e35 ?_
    refine go_adv hX c_230 1 (F2 := (74, [.int x1, .int v34], [(0, .ref x0), (1, .int x1)], v30)) rfl ?_
    rcases mm_ite hF with ⟨hc36, hF⟩ | ⟨hc36, hF⟩
    · refine go_ct hX 83 c_230 rfl rfl hc36 ?_
      refine go_adv hX c_230 1 (F2 := (84, [.ref x0], [(0, .ref x0), (1, .int x1)], v30)) rfl ?_
      obtain ⟨v37, e38, hF⟩ := mm_bind hF
      refine go_gI hX c_230 rfl e38 ?_
      cases hF
      exact go_iret hX c_230 rfl rfl rfl hQ
    · refine go_cf hX c_230 rfl (by decide) hc36 ?_
      refine go_adv hX c_230 2 (F2 := (80, [.int (kb 33), .ref x0], [(0, .ref x0), (1, .int x1)], v30)) rfl ?_
      obtain ⟨_, e39, hF⟩ := mm_bind hF
      obtain ⟨v40, e41, hF⟩ := mm_bind hF
      refine go_cV hX (As := [.int (kb 33)]) (rv := none) (h2 := v40) (ci := 6) c_230 rfl (Nat.le_of_ble_eq_true rfl) rfl rfl e39 (by decide) (Nat.le_of_ble_eq_true rfl) (fun Q2 hQ2 => r_X6_writes hX (d := (d + 1)) e41 hQ2) ?_
      refine go_adv hX c_230 1 (F2 := (84, [.ref x0], [(0, .ref x0), (1, .int x1)], v40)) rfl ?_
      obtain ⟨v42, e43, hF⟩ := mm_bind hF
      refine go_gI hX c_230 rfl e43 ?_
      cases hF
      exact go_iret hX c_230 rfl rfl rfl hQ
  · refine go_zf hX c_230 rfl (by decide) hc8 ?_
    refine go_adv hX c_230 1 (F2 := (24, [.int (ki 0)], [(0, .ref x0), (1, .int x1)], h4)) rfl ?_
    cases hF
    exact go_iret hX c_230 rfl rfl rfl hQ
theorem r_X6_tellGiant {X : mm_Cl} (hX : mm_mono X) {d c k : Nat} {Q : mm_Re → Prop} {h : mm_S} {x0 : Nat} {x1 : Int32} {o : (Int32 × mm_S)} (hF : F_X6_tellGiant h x0 x1 = some o) (hQ : Q (.inl (some (.int o.1)), o.2)) : mm_Run X (d + 3) 230 c k [.ref x0, .int x1] h Q := by
  unfold F_X6_tellGiant at hF
  refine mm_Run_in (by decide) (by decide) (Nat.le_of_ble_eq_true rfl) ?_
  show mm_Ex (mm_Run X (d + 2)) 230 Q (0, [], [(0, .ref x0), (1, .int x1)], h) c k
  refine go_adv hX c_230 2 (F2 := (2, [.int x1, .ref x0], [(0, .ref x0), (1, .int x1)], h)) rfl ?_
  obtain ⟨v1, e2, hF⟩ := mm_bind hF
  refine go_cS hX (As := [.int x1]) (rv := some (.int v1)) (h2 := h) c_230 rfl (by decide) (Nat.le_of_ble_eq_true rfl) rfl rfl (Nat.le_of_ble_eq_true rfl) (fun Q2 hQ2 => r_X6_isGiant hX (d := d) e2 hQ2) ?_
  rcases mm_ite hF with ⟨hc3, hF⟩ | ⟨hc3, hF⟩
  · refine go_zt hX 12 c_230 rfl rfl hc3 ?_
    refine go_adv hX c_230 1 (F2 := (13, [.int (ki 1), .ref x0], [(0, .ref x0), (1, .int x1)], h)) rfl ?_
    refine go_ls [(0, .ref x0), (1, .int x1)] ⟨rfl, ⟨rfl, trivial⟩⟩ ?_
    exact r_X6_tellGiant_B13 hX hF hQ
  · refine go_zf hX c_230 rfl (by decide) hc3 ?_
    refine go_adv hX c_230 1 (F2 := (9, [.int (ki 0), .ref x0], [(0, .ref x0), (1, .int x1)], h)) rfl ?_
    refine go_to hX 13 c_230 rfl rfl ?_
    refine go_ls [(0, .ref x0), (1, .int x1)] ⟨rfl, ⟨rfl, trivial⟩⟩ ?_
    exact r_X6_tellGiant_B13 hX hF hQ
theorem c_231 : mm_cd 231 = k_X6_tellStair := rfl
def F_X6_tellStair_B14 (h : mm_S) (s0 : Int32) (s1 : Nat) (x0 : Nat) (x1 : Int32) : Option (Int32 × mm_S) :=
  (fx_pV h s1 6 5 (.int s0)).bind fun h5 =>
  (fx_gI h5 x0 6 5).bind fun v7 =>
  if v7 ≤ 0 then
    (fx_pV h5 x0 6 25 (.int (ki 0))).bind fun h10 =>
    (fx_is h10 x0 6).bind fun _ =>
    (F_X6_writesNumber h10 x0 x1).bind fun v13 =>
    (fx_is v13 x0 6).bind fun _ =>
    (F_X6_writes v13 x0 (kb 58)).bind fun v16 =>
    (fx_is v16 x0 6).bind fun _ =>
    (F_X6_sv v16 x0 x1 (ki 0)).bind fun v19 =>
    (fx_is v16 x0 6).bind fun _ =>
    (F_X6_writesNumber v16 x0 v19).bind fun v22 =>
    (fx_is v22 x0 6).bind fun _ =>
    (F_X6_sv v22 x0 x1 (ki 1)).bind fun v25 =>
    (fx_is v22 x0 6).bind fun _ =>
    (F_X6_writesNumber v22 x0 v25).bind fun v28 =>
    (fx_is v28 x0 6).bind fun _ =>
    (F_X6_writes v28 x0 (kb 94)).bind fun v31 =>
    (fx_is v31 x0 6).bind fun _ =>
    (F_X6_sv v31 x0 x1 (ki 2)).bind fun v34 =>
    (fx_is v31 x0 6).bind fun _ =>
    (F_X6_writesNumber v31 x0 v34).bind fun v37 =>
    (fx_is v37 x0 6).bind fun _ =>
    (F_X6_writes v37 x0 (kb 126)).bind fun v40 =>
    (fx_is v40 x0 6).bind fun _ =>
    (F_X6_sv v40 x0 x1 (ki 3)).bind fun v43 =>
    (fx_is v40 x0 6).bind fun _ =>
    (F_X6_writesNumber v40 x0 v43).bind fun v46 =>
    (fx_is v46 x0 6).bind fun _ =>
    (F_X6_sv v46 x0 x1 (ki 5)).bind fun v49 =>
    if 0 ≤ v49 then
      (fx_is v46 x0 6).bind fun _ =>
      (F_X6_writes v46 x0 (kb 61)).bind fun v53 =>
      (fx_is v53 x0 6).bind fun _ =>
      (F_X6_sv v53 x0 x1 (ki 5)).bind fun v56 =>
      (fx_is v53 x0 6).bind fun _ =>
      (F_X6_writesNumber v53 x0 v56).bind fun v59 =>
      (fx_is v59 x0 6).bind fun _ =>
      (F_X6_writes v59 x0 (kb 47)).bind fun v62 =>
      (fx_is v62 x0 6).bind fun _ =>
      (F_X6_sv v62 x0 x1 (kb 6)).bind fun v65 =>
      (fx_is v62 x0 6).bind fun _ =>
      (F_X6_writesNumber v62 x0 v65).bind fun v68 =>
      (fx_gI v68 x0 6 25).bind fun v70 =>
      some (v70, v68)
    else
      (fx_gI v46 x0 6 25).bind fun v72 =>
      some (v72, v46)
  else
    some (ki 0, h5)
def F_X6_tellStair (h : mm_S) (x0 : Nat) (x1 : Int32) : Option (Int32 × mm_S) :=
  (fx_is h x0 6).bind fun _ =>
  (F_X6_isStair h x0 x1).bind fun v2 =>
  if v2 = 0 then
    F_X6_tellStair_B14 h (ki 1) x0 x0 x1
  else
    F_X6_tellStair_B14 h (ki 0) x0 x0 x1
theorem r_X6_tellStair_B14 {X : mm_Cl} (hX : mm_mono X) {d c k : Nat} {Q : mm_Re → Prop} {h : mm_S} {s0 : Int32} {s1 : Nat} {x0 : Nat} {x1 : Int32} {o : (Int32 × mm_S)} (hF : F_X6_tellStair_B14 h s0 s1 x0 x1 = some o) (hQ : Q (.inl (some (.int o.1)), o.2)) : mm_Ex (mm_Run X (d + 2)) 231 Q (14, [.int s0, .ref s1], [(0, .ref x0), (1, .int x1)], h) c k := by
  unfold F_X6_tellStair_B14 at hF
  obtain ⟨h5, e6, hF⟩ := mm_bind hF
  refine go_pV hX c_231 rfl e6 ?_
  refine go_adv hX c_231 1 (F2 := (18, [.ref x0], [(0, .ref x0), (1, .int x1)], h5)) rfl ?_
  obtain ⟨v7, e8, hF⟩ := mm_bind hF
  refine go_gI hX c_231 rfl e8 ?_
  rcases mm_ite hF with ⟨hc9, hF⟩ | ⟨hc9, hF⟩
  · refine go_zt hX 26 c_231 rfl rfl hc9 ?_
    refine go_adv hX c_231 2 (F2 := (28, [.int (ki 0), .ref x0], [(0, .ref x0), (1, .int x1)], h5)) rfl ?_
    obtain ⟨h10, e11, hF⟩ := mm_bind hF
    refine go_pV hX c_231 rfl e11 ?_
    refine go_adv hX c_231 2 (F2 := (33, [.int x1, .ref x0], [(0, .ref x0), (1, .int x1)], h10)) rfl ?_
    obtain ⟨_, e12, hF⟩ := mm_bind hF
    obtain ⟨v13, e14, hF⟩ := mm_bind hF
    refine go_cV hX (As := [.int x1]) (rv := none) (h2 := v13) (ci := 6) c_231 rfl (Nat.le_of_ble_eq_true rfl) rfl rfl e12 (by decide) (Nat.le_of_ble_eq_true rfl) (fun Q2 hQ2 => r_X6_writesNumber hX (d := d) e14 hQ2) ?_
    refine go_adv hX c_231 2 (F2 := (39, [.int (kb 58), .ref x0], [(0, .ref x0), (1, .int x1)], v13)) rfl ?_
    obtain ⟨_, e15, hF⟩ := mm_bind hF
    obtain ⟨v16, e17, hF⟩ := mm_bind hF
    refine go_cV hX (As := [.int (kb 58)]) (rv := none) (h2 := v16) (ci := 6) c_231 rfl (Nat.le_of_ble_eq_true rfl) rfl rfl e15 (by decide) (Nat.le_of_ble_eq_true rfl) (fun Q2 hQ2 => r_X6_writes hX (d := (d + 1)) e17 hQ2) ?_
    refine go_adv hX c_231 4 (F2 := (46, [.int (ki 0), .int x1, .ref x0, .ref x0], [(0, .ref x0), (1, .int x1)], v16)) rfl ?_
    obtain ⟨_, e18, hF⟩ := mm_bind hF
    obtain ⟨v19, e20, hF⟩ := mm_bind hF
    refine go_cV hX (As := [.int x1, .int (ki 0)]) (rv := some (.int v19)) (h2 := v16) (ci := 6) c_231 rfl (Nat.le_of_ble_eq_true rfl) rfl rfl e18 (by decide) (Nat.le_of_ble_eq_true rfl) (fun Q2 hQ2 => r_X6_sv hX (d := (d + 1)) e20 hQ2) ?_
    obtain ⟨_, e21, hF⟩ := mm_bind hF
    obtain ⟨v22, e23, hF⟩ := mm_bind hF
    refine go_cV hX (As := [.int v19]) (rv := none) (h2 := v22) (ci := 6) c_231 rfl (Nat.le_of_ble_eq_true rfl) rfl rfl e21 (by decide) (Nat.le_of_ble_eq_true rfl) (fun Q2 hQ2 => r_X6_writesNumber hX (d := d) e23 hQ2) ?_
    refine go_adv hX c_231 4 (F2 := (56, [.int (ki 1), .int x1, .ref x0, .ref x0], [(0, .ref x0), (1, .int x1)], v22)) rfl ?_
    obtain ⟨_, e24, hF⟩ := mm_bind hF
    obtain ⟨v25, e26, hF⟩ := mm_bind hF
    refine go_cV hX (As := [.int x1, .int (ki 1)]) (rv := some (.int v25)) (h2 := v22) (ci := 6) c_231 rfl (Nat.le_of_ble_eq_true rfl) rfl rfl e24 (by decide) (Nat.le_of_ble_eq_true rfl) (fun Q2 hQ2 => r_X6_sv hX (d := (d + 1)) e26 hQ2) ?_
    obtain ⟨_, e27, hF⟩ := mm_bind hF
    obtain ⟨v28, e29, hF⟩ := mm_bind hF
    refine go_cV hX (As := [.int v25]) (rv := none) (h2 := v28) (ci := 6) c_231 rfl (Nat.le_of_ble_eq_true rfl) rfl rfl e27 (by decide) (Nat.le_of_ble_eq_true rfl) (fun Q2 hQ2 => r_X6_writesNumber hX (d := d) e29 hQ2) ?_
    refine go_adv hX c_231 2 (F2 := (65, [.int (kb 94), .ref x0], [(0, .ref x0), (1, .int x1)], v28)) rfl ?_
    obtain ⟨_, e30, hF⟩ := mm_bind hF
    obtain ⟨v31, e32, hF⟩ := mm_bind hF
    refine go_cV hX (As := [.int (kb 94)]) (rv := none) (h2 := v31) (ci := 6) c_231 rfl (Nat.le_of_ble_eq_true rfl) rfl rfl e30 (by decide) (Nat.le_of_ble_eq_true rfl) (fun Q2 hQ2 => r_X6_writes hX (d := (d + 1)) e32 hQ2) ?_
    refine go_adv hX c_231 4 (F2 := (72, [.int (ki 2), .int x1, .ref x0, .ref x0], [(0, .ref x0), (1, .int x1)], v31)) rfl ?_
    obtain ⟨_, e33, hF⟩ := mm_bind hF
    obtain ⟨v34, e35, hF⟩ := mm_bind hF
    refine go_cV hX (As := [.int x1, .int (ki 2)]) (rv := some (.int v34)) (h2 := v31) (ci := 6) c_231 rfl (Nat.le_of_ble_eq_true rfl) rfl rfl e33 (by decide) (Nat.le_of_ble_eq_true rfl) (fun Q2 hQ2 => r_X6_sv hX (d := (d + 1)) e35 hQ2) ?_
    obtain ⟨_, e36, hF⟩ := mm_bind hF
    obtain ⟨v37, e38, hF⟩ := mm_bind hF
    refine go_cV hX (As := [.int v34]) (rv := none) (h2 := v37) (ci := 6) c_231 rfl (Nat.le_of_ble_eq_true rfl) rfl rfl e36 (by decide) (Nat.le_of_ble_eq_true rfl) (fun Q2 hQ2 => r_X6_writesNumber hX (d := d) e38 hQ2) ?_
    refine go_adv hX c_231 2 (F2 := (81, [.int (kb 126), .ref x0], [(0, .ref x0), (1, .int x1)], v37)) rfl ?_
    obtain ⟨_, e39, hF⟩ := mm_bind hF
    obtain ⟨v40, e41, hF⟩ := mm_bind hF
    refine go_cV hX (As := [.int (kb 126)]) (rv := none) (h2 := v40) (ci := 6) c_231 rfl (Nat.le_of_ble_eq_true rfl) rfl rfl e39 (by decide) (Nat.le_of_ble_eq_true rfl) (fun Q2 hQ2 => r_X6_writes hX (d := (d + 1)) e41 hQ2) ?_
    refine go_adv hX c_231 4 (F2 := (88, [.int (ki 3), .int x1, .ref x0, .ref x0], [(0, .ref x0), (1, .int x1)], v40)) rfl ?_
    obtain ⟨_, e42, hF⟩ := mm_bind hF
    obtain ⟨v43, e44, hF⟩ := mm_bind hF
    refine go_cV hX (As := [.int x1, .int (ki 3)]) (rv := some (.int v43)) (h2 := v40) (ci := 6) c_231 rfl (Nat.le_of_ble_eq_true rfl) rfl rfl e42 (by decide) (Nat.le_of_ble_eq_true rfl) (fun Q2 hQ2 => r_X6_sv hX (d := (d + 1)) e44 hQ2) ?_
    obtain ⟨_, e45, hF⟩ := mm_bind hF
    obtain ⟨v46, e47, hF⟩ := mm_bind hF
    refine go_cV hX (As := [.int v43]) (rv := none) (h2 := v46) (ci := 6) c_231 rfl (Nat.le_of_ble_eq_true rfl) rfl rfl e45 (by decide) (Nat.le_of_ble_eq_true rfl) (fun Q2 hQ2 => r_X6_writesNumber hX (d := d) e47 hQ2) ?_
    refine go_adv hX c_231 3 (F2 := (97, [.int (ki 5), .int x1, .ref x0], [(0, .ref x0), (1, .int x1)], v46)) rfl ?_
    obtain ⟨_, e48, hF⟩ := mm_bind hF
    obtain ⟨v49, e50, hF⟩ := mm_bind hF
    refine go_cV hX (As := [.int x1, .int (ki 5)]) (rv := some (.int v49)) (h2 := v46) (ci := 6) c_231 rfl (Nat.le_of_ble_eq_true rfl) rfl rfl e48 (by decide) (Nat.le_of_ble_eq_true rfl) (fun Q2 hQ2 => r_X6_sv hX (d := (d + 1)) e50 hQ2) ?_
    rcases mm_ite hF with ⟨hc51, hF⟩ | ⟨hc51, hF⟩
    · refine go_zt hX 108 c_231 rfl rfl hc51 ?_
      refine go_adv hX c_231 2 (F2 := (111, [.int (kb 61), .ref x0], [(0, .ref x0), (1, .int x1)], v46)) rfl ?_
      obtain ⟨_, e52, hF⟩ := mm_bind hF
      obtain ⟨v53, e54, hF⟩ := mm_bind hF
      refine go_cV hX (As := [.int (kb 61)]) (rv := none) (h2 := v53) (ci := 6) c_231 rfl (Nat.le_of_ble_eq_true rfl) rfl rfl e52 (by decide) (Nat.le_of_ble_eq_true rfl) (fun Q2 hQ2 => r_X6_writes hX (d := (d + 1)) e54 hQ2) ?_
      refine go_adv hX c_231 4 (F2 := (118, [.int (ki 5), .int x1, .ref x0, .ref x0], [(0, .ref x0), (1, .int x1)], v53)) rfl ?_
      obtain ⟨_, e55, hF⟩ := mm_bind hF
      obtain ⟨v56, e57, hF⟩ := mm_bind hF
      refine go_cV hX (As := [.int x1, .int (ki 5)]) (rv := some (.int v56)) (h2 := v53) (ci := 6) c_231 rfl (Nat.le_of_ble_eq_true rfl) rfl rfl e55 (by decide) (Nat.le_of_ble_eq_true rfl) (fun Q2 hQ2 => r_X6_sv hX (d := (d + 1)) e57 hQ2) ?_
      obtain ⟨_, e58, hF⟩ := mm_bind hF
      obtain ⟨v59, e60, hF⟩ := mm_bind hF
      refine go_cV hX (As := [.int v56]) (rv := none) (h2 := v59) (ci := 6) c_231 rfl (Nat.le_of_ble_eq_true rfl) rfl rfl e58 (by decide) (Nat.le_of_ble_eq_true rfl) (fun Q2 hQ2 => r_X6_writesNumber hX (d := d) e60 hQ2) ?_
      refine go_adv hX c_231 2 (F2 := (127, [.int (kb 47), .ref x0], [(0, .ref x0), (1, .int x1)], v59)) rfl ?_
      obtain ⟨_, e61, hF⟩ := mm_bind hF
      obtain ⟨v62, e63, hF⟩ := mm_bind hF
      refine go_cV hX (As := [.int (kb 47)]) (rv := none) (h2 := v62) (ci := 6) c_231 rfl (Nat.le_of_ble_eq_true rfl) rfl rfl e61 (by decide) (Nat.le_of_ble_eq_true rfl) (fun Q2 hQ2 => r_X6_writes hX (d := (d + 1)) e63 hQ2) ?_
      refine go_adv hX c_231 4 (F2 := (135, [.int (kb 6), .int x1, .ref x0, .ref x0], [(0, .ref x0), (1, .int x1)], v62)) rfl ?_
      obtain ⟨_, e64, hF⟩ := mm_bind hF
      obtain ⟨v65, e66, hF⟩ := mm_bind hF
      refine go_cV hX (As := [.int x1, .int (kb 6)]) (rv := some (.int v65)) (h2 := v62) (ci := 6) c_231 rfl (Nat.le_of_ble_eq_true rfl) rfl rfl e64 (by decide) (Nat.le_of_ble_eq_true rfl) (fun Q2 hQ2 => r_X6_sv hX (d := (d + 1)) e66 hQ2) ?_
      obtain ⟨_, e67, hF⟩ := mm_bind hF
      obtain ⟨v68, e69, hF⟩ := mm_bind hF
      refine go_cV hX (As := [.int v65]) (rv := none) (h2 := v68) (ci := 6) c_231 rfl (Nat.le_of_ble_eq_true rfl) rfl rfl e67 (by decide) (Nat.le_of_ble_eq_true rfl) (fun Q2 hQ2 => r_X6_writesNumber hX (d := d) e69 hQ2) ?_
      refine go_adv hX c_231 1 (F2 := (142, [.ref x0], [(0, .ref x0), (1, .int x1)], v68)) rfl ?_
      obtain ⟨v70, e71, hF⟩ := mm_bind hF
      refine go_gI hX c_231 rfl e71 ?_
      cases hF
      exact go_iret hX c_231 rfl rfl rfl hQ
    · refine go_zf hX c_231 rfl (by decide) hc51 ?_
      refine go_adv hX c_231 1 (F2 := (104, [.ref x0], [(0, .ref x0), (1, .int x1)], v46)) rfl ?_
      obtain ⟨v72, e73, hF⟩ := mm_bind hF
      refine go_gI hX c_231 rfl e73 ?_
      cases hF
      exact go_iret hX c_231 rfl rfl rfl hQ
  · refine go_zf hX c_231 rfl (by decide) hc9 ?_
    refine go_adv hX c_231 1 (F2 := (25, [.int (ki 0)], [(0, .ref x0), (1, .int x1)], h5)) rfl ?_
    cases hF
    exact go_iret hX c_231 rfl rfl rfl hQ
theorem r_X6_tellStair {X : mm_Cl} (hX : mm_mono X) {d c k : Nat} {Q : mm_Re → Prop} {h : mm_S} {x0 : Nat} {x1 : Int32} {o : (Int32 × mm_S)} (hF : F_X6_tellStair h x0 x1 = some o) (hQ : Q (.inl (some (.int o.1)), o.2)) : mm_Run X (d + 3) 231 c k [.ref x0, .int x1] h Q := by
  unfold F_X6_tellStair at hF
  refine mm_Run_in (by decide) (by decide) (Nat.le_of_ble_eq_true rfl) ?_
  show mm_Ex (mm_Run X (d + 2)) 231 Q (0, [], [(0, .ref x0), (1, .int x1)], h) c k
  refine go_adv hX c_231 3 (F2 := (3, [.int x1, .ref x0, .ref x0], [(0, .ref x0), (1, .int x1)], h)) rfl ?_
  obtain ⟨_, e1, hF⟩ := mm_bind hF
  obtain ⟨v2, e3, hF⟩ := mm_bind hF
  refine go_cV hX (As := [.int x1]) (rv := some (.int v2)) (h2 := h) (ci := 6) c_231 rfl (Nat.le_of_ble_eq_true rfl) rfl rfl e1 (by decide) (Nat.le_of_ble_eq_true rfl) (fun Q2 hQ2 => r_X6_isStair hX (d := d) e3 hQ2) ?_
  rcases mm_ite hF with ⟨hc4, hF⟩ | ⟨hc4, hF⟩
  · refine go_zt hX 13 c_231 rfl rfl hc4 ?_
    refine go_adv hX c_231 1 (F2 := (14, [.int (ki 1), .ref x0], [(0, .ref x0), (1, .int x1)], h)) rfl ?_
    refine go_ls [(0, .ref x0), (1, .int x1)] ⟨rfl, ⟨rfl, trivial⟩⟩ ?_
    exact r_X6_tellStair_B14 hX hF hQ
  · refine go_zf hX c_231 rfl (by decide) hc4 ?_
    refine go_adv hX c_231 1 (F2 := (10, [.int (ki 0), .ref x0], [(0, .ref x0), (1, .int x1)], h)) rfl ?_
    refine go_to hX 14 c_231 rfl rfl ?_
    refine go_ls [(0, .ref x0), (1, .int x1)] ⟨rfl, ⟨rfl, trivial⟩⟩ ?_
    exact r_X6_tellStair_B14 hX hF hQ
theorem c_232 : mm_cd 232 = k_X6_tellLandings := rfl
def F_X6_tellLandings_L12 : Nat → Nat → Int32 → mm_S → Option mm_S
  | 0, _, _, _ => none
  | n + 1, x0, x1, h =>
    if (kb 8) ≤ x1 then
      some h
    else
      (fx_is h x0 6).bind fun _ =>
      (F_X6_owner h x0 x1).bind fun v7 =>
      if v7 ≠ (ki 2) then
        (fx_is h x0 6).bind fun _ =>
        (F_X6_owner h x0 x1).bind fun v11 =>
        (fx_is h x0 6).bind fun _ =>
        (F_X6_writes h x0 ((kb 48) + v11)).bind fun v14 =>
        F_X6_tellLandings_L12 n x0 (x1 + ki 1) v14
      else
        (fx_is h x0 6).bind fun _ =>
        (F_X6_writes h x0 (kb 46)).bind fun v17 =>
        F_X6_tellLandings_L12 n x0 (x1 + ki 1) v17
def F_X6_tellLandings (h : mm_S) (x0 : Nat) : Option (Int32 × mm_S) :=
  (fx_pV h x0 6 5 (.int (ki 0))).bind fun h1 =>
  (fx_pV h1 x0 6 25 (.int (ki 0))).bind fun h3 =>
  (F_X6_tellLandings_L12 1000 x0 (ki 0) h3).bind fun o19 =>
  (fx_gI o19 x0 6 25).bind fun v21 =>
  some (v21, o19)
theorem r_X6_tellLandings_L12 {X : mm_Cl} (hX : mm_mono X) {d c k : Nat} {Q : mm_Re → Prop} : ∀ (n : Nat) (x0 : Nat) (x1 : Int32) (h : mm_S) (o : mm_S), F_X6_tellLandings_L12 n x0 x1 h = some o → (mm_Ex (mm_Run X (d + 1)) 232 Q (50, [], [(0, .ref x0)], o) c k) → mm_Ex (mm_Run X (d + 1)) 232 Q (12, [], [(0, .ref x0), (1, .int x1)], h) c k := by
  intro n
  induction n with
  | zero => intro x0 x1 h o hF; cases hF
  | succ n ih =>
    intro x0 x1 h o hF hE
    unfold F_X6_tellLandings_L12 at hF
    refine go_adv hX c_232 2 (F2 := (15, [.int (kb 8), .int x1], [(0, .ref x0), (1, .int x1)], h)) rfl ?_
    rcases mm_ite hF with ⟨hc5, hF⟩ | ⟨hc5, hF⟩
    · refine go_ct hX 50 c_232 rfl rfl hc5 ?_
      cases hF
      refine go_ls [(0, .ref x0)] ⟨rfl, trivial⟩ ?_
      exact hE
    · refine go_cf hX c_232 rfl (by decide) hc5 ?_
      refine go_adv hX c_232 3 (F2 := (21, [.int x1, .ref x0, .ref x0], [(0, .ref x0), (1, .int x1)], h)) rfl ?_
      obtain ⟨_, e6, hF⟩ := mm_bind hF
      obtain ⟨v7, e8, hF⟩ := mm_bind hF
      refine go_cV hX (As := [.int x1]) (rv := some (.int v7)) (h2 := h) (ci := 6) c_232 rfl (Nat.le_of_ble_eq_true rfl) rfl rfl e6 (by decide) (Nat.le_of_ble_eq_true rfl) (fun Q2 hQ2 => r_X6_owner hX (d := d) e8 hQ2) ?_
      refine go_adv hX c_232 1 (F2 := (25, [.int (ki 2), .int v7, .ref x0], [(0, .ref x0), (1, .int x1)], h)) rfl ?_
      rcases mm_ite hF with ⟨hc9, hF⟩ | ⟨hc9, hF⟩
      · refine go_ct hX 33 c_232 rfl rfl hc9 ?_
        refine go_adv hX c_232 3 (F2 := (37, [.int x1, .ref x0, .int (kb 48), .ref x0], [(0, .ref x0), (1, .int x1)], h)) rfl ?_
        obtain ⟨_, e10, hF⟩ := mm_bind hF
        obtain ⟨v11, e12, hF⟩ := mm_bind hF
        refine go_cV hX (As := [.int x1]) (rv := some (.int v11)) (h2 := h) (ci := 6) c_232 rfl (Nat.le_of_ble_eq_true rfl) rfl rfl e10 (by decide) (Nat.le_of_ble_eq_true rfl) (fun Q2 hQ2 => r_X6_owner hX (d := d) e12 hQ2) ?_
        refine go_adv hX c_232 1 (F2 := (41, [.int ((kb 48) + v11), .ref x0], [(0, .ref x0), (1, .int x1)], h)) rfl ?_
        obtain ⟨_, e13, hF⟩ := mm_bind hF
        obtain ⟨v14, e15, hF⟩ := mm_bind hF
        refine go_cV hX (As := [.int ((kb 48) + v11)]) (rv := none) (h2 := v14) (ci := 6) c_232 rfl (Nat.le_of_ble_eq_true rfl) rfl rfl e13 (by decide) (Nat.le_of_ble_eq_true rfl) (fun Q2 hQ2 => r_X6_writes hX (d := d) e15 hQ2) ?_
        refine go_adv hX c_232 1 (F2 := (47, [], [(1, .int (x1 + ki 1)), (0, .ref x0)], v14)) rfl ?_
        refine go_to hX 12 c_232 rfl rfl ?_
        refine go_ls [(0, .ref x0), (1, .int (x1 + ki 1))] ⟨rfl, ⟨rfl, trivial⟩⟩ ?_
        exact ih x0 (x1 + ki 1) v14 _ hF hE
      · refine go_cf hX c_232 rfl (by decide) hc9 ?_
        refine go_adv hX c_232 1 (F2 := (30, [.int (kb 46), .ref x0], [(0, .ref x0), (1, .int x1)], h)) rfl ?_
        refine go_to hX 41 c_232 rfl rfl ?_
        obtain ⟨_, e16, hF⟩ := mm_bind hF
        obtain ⟨v17, e18, hF⟩ := mm_bind hF
        refine go_cV hX (As := [.int (kb 46)]) (rv := none) (h2 := v17) (ci := 6) c_232 rfl (Nat.le_of_ble_eq_true rfl) rfl rfl e16 (by decide) (Nat.le_of_ble_eq_true rfl) (fun Q2 hQ2 => r_X6_writes hX (d := d) e18 hQ2) ?_
        refine go_adv hX c_232 1 (F2 := (47, [], [(1, .int (x1 + ki 1)), (0, .ref x0)], v17)) rfl ?_
        refine go_to hX 12 c_232 rfl rfl ?_
        refine go_ls [(0, .ref x0), (1, .int (x1 + ki 1))] ⟨rfl, ⟨rfl, trivial⟩⟩ ?_
        exact ih x0 (x1 + ki 1) v17 _ hF hE
theorem r_X6_tellLandings {X : mm_Cl} (hX : mm_mono X) {d c k : Nat} {Q : mm_Re → Prop} {h : mm_S} {x0 : Nat} {o : (Int32 × mm_S)} (hF : F_X6_tellLandings h x0 = some o) (hQ : Q (.inl (some (.int o.1)), o.2)) : mm_Run X (d + 2) 232 c k [.ref x0] h Q := by
  unfold F_X6_tellLandings at hF
  refine mm_Run_in (by decide) (by decide) (Nat.le_of_ble_eq_true rfl) ?_
  show mm_Ex (mm_Run X (d + 1)) 232 Q (0, [], [(0, .ref x0)], h) c k
  refine go_adv hX c_232 2 (F2 := (2, [.int (ki 0), .ref x0], [(0, .ref x0)], h)) rfl ?_
  obtain ⟨h1, e2, hF⟩ := mm_bind hF
  refine go_pV hX c_232 rfl e2 ?_
  refine go_adv hX c_232 2 (F2 := (7, [.int (ki 0), .ref x0], [(0, .ref x0)], h1)) rfl ?_
  obtain ⟨h3, e4, hF⟩ := mm_bind hF
  refine go_pV hX c_232 rfl e4 ?_
  refine go_adv hX c_232 2 (F2 := (12, [], [(1, .int (ki 0)), (0, .ref x0)], h3)) rfl ?_
  refine go_ls [(0, .ref x0), (1, .int (ki 0))] ⟨rfl, ⟨rfl, trivial⟩⟩ ?_
  obtain ⟨o19, e20, hF⟩ := mm_bind hF
  refine r_X6_tellLandings_L12 hX 1000 x0 (ki 0) h3 o19 e20 ?_
  refine go_adv hX c_232 1 (F2 := (51, [.ref x0], [(0, .ref x0)], o19)) rfl ?_
  obtain ⟨v21, e22, hF⟩ := mm_bind hF
  refine go_gI hX c_232 rfl e22 ?_
  cases hF
  exact go_iret hX c_232 rfl rfl rfl hQ
theorem c_233 : mm_cd 233 = k_X6_character := rfl
def F_X6_character (h : mm_S) (x0 : Nat) (x1 : Int32) : Option (Int32 × mm_S) :=
  (fx_gI h x0 6 25).bind fun v1 =>
  (F_X6_in h x1 (ki 0) (v1 - (ki 1))).bind fun v3 =>
  if v3 = 0 then
    (fx_pV h x0 6 5 (.int (ki 1))).bind fun h6 =>
    (fx_gI h6 x0 6 5).bind fun v8 =>
    if v8 ≤ 0 then
      (fx_gR h6 x0 6 24).bind fun v11 =>
      (fx_aI h6 v11 x1).bind fun v13 =>
      (fx_nar .char ((v13.toUInt32 % 65536).toInt32)).bind fun v15 =>
      some (v15, h6)
    else
      (fx_nar .char (kb 32)).bind fun v17 =>
      some (v17, h6)
  else
    (fx_pV h x0 6 5 (.int (ki 0))).bind fun h19 =>
    (fx_gI h19 x0 6 5).bind fun v21 =>
    if v21 ≤ 0 then
      (fx_gR h19 x0 6 24).bind fun v24 =>
      (fx_aI h19 v24 x1).bind fun v26 =>
      (fx_nar .char ((v26.toUInt32 % 65536).toInt32)).bind fun v28 =>
      some (v28, h19)
    else
      (fx_nar .char (kb 32)).bind fun v30 =>
      some (v30, h19)
theorem r_X6_character {X : mm_Cl} (hX : mm_mono X) {d c k : Nat} {Q : mm_Re → Prop} {h : mm_S} {x0 : Nat} {x1 : Int32} {o : (Int32 × mm_S)} (hF : F_X6_character h x0 x1 = some o) (hQ : Q (.inl (some (.int o.1)), o.2)) : mm_Run X (d + 2) 233 c k [.ref x0, .int x1] h Q := by
  unfold F_X6_character at hF
  refine mm_Run_in (by decide) (by decide) (Nat.le_of_ble_eq_true rfl) ?_
  show mm_Ex (mm_Run X (d + 1)) 233 Q (0, [], [(0, .ref x0), (1, .int x1)], h) c k
  refine go_adv hX c_233 4 (F2 := (4, [.ref x0, .int (ki 0), .int x1, .ref x0], [(0, .ref x0), (1, .int x1)], h)) rfl ?_
  obtain ⟨v1, e2, hF⟩ := mm_bind hF
  refine go_gI hX c_233 rfl e2 ?_
  refine go_adv hX c_233 2 (F2 := (9, [.int (v1 - (ki 1)), .int (ki 0), .int x1, .ref x0], [(0, .ref x0), (1, .int x1)], h)) rfl ?_
  obtain ⟨v3, e4, hF⟩ := mm_bind hF
  refine go_cS hX (As := [.int x1, .int (ki 0), .int (v1 - (ki 1))]) (rv := some (.int v3)) (h2 := h) c_233 rfl (by decide) (Nat.le_of_ble_eq_true rfl) rfl rfl (Nat.le_of_ble_eq_true rfl) (fun Q2 hQ2 => r_X6_in hX (d := d) e4 hQ2) ?_
  rcases mm_ite hF with ⟨hc5, hF⟩ | ⟨hc5, hF⟩
  · refine go_zt hX 19 c_233 rfl rfl hc5 ?_
    refine go_adv hX c_233 1 (F2 := (20, [.int (ki 1), .ref x0], [(0, .ref x0), (1, .int x1)], h)) rfl ?_
    obtain ⟨h6, e7, hF⟩ := mm_bind hF
    refine go_pV hX c_233 rfl e7 ?_
    refine go_adv hX c_233 1 (F2 := (24, [.ref x0], [(0, .ref x0), (1, .int x1)], h6)) rfl ?_
    obtain ⟨v8, e9, hF⟩ := mm_bind hF
    refine go_gI hX c_233 rfl e9 ?_
    rcases mm_ite hF with ⟨hc10, hF⟩ | ⟨hc10, hF⟩
    · refine go_zt hX 35 c_233 rfl rfl hc10 ?_
      refine go_adv hX c_233 1 (F2 := (36, [.ref x0], [(0, .ref x0), (1, .int x1)], h6)) rfl ?_
      obtain ⟨v11, e12, hF⟩ := mm_bind hF
      refine go_gR hX c_233 rfl e12 ?_
      refine go_adv hX c_233 1 (F2 := (40, [.int x1, .ref v11], [(0, .ref x0), (1, .int x1)], h6)) rfl ?_
      obtain ⟨v13, e14, hF⟩ := mm_bind hF
      refine go_aI hX c_233 rfl e14 ?_
      refine go_adv hX c_233 1 (F2 := (42, [.int ((v13.toUInt32 % 65536).toInt32)], [(0, .ref x0), (1, .int x1)], h6)) rfl ?_
      obtain ⟨v15, e16, hF⟩ := mm_bind hF
      obtain ⟨rfl, e16n⟩ := fx_nar_s e16
      cases hF
      exact go_iret hX c_233 rfl rfl e16n hQ
    · refine go_zf hX c_233 rfl (by decide) hc10 ?_
      refine go_adv hX c_233 1 (F2 := (32, [.int (kb 32)], [(0, .ref x0), (1, .int x1)], h6)) rfl ?_
      refine go_to hX 42 c_233 rfl rfl ?_
      obtain ⟨v17, e18, hF⟩ := mm_bind hF
      obtain ⟨rfl, e18n⟩ := fx_nar_s e18
      cases hF
      exact go_iret hX c_233 rfl rfl e18n hQ
  · refine go_zf hX c_233 rfl (by decide) hc5 ?_
    refine go_adv hX c_233 1 (F2 := (16, [.int (ki 0), .ref x0], [(0, .ref x0), (1, .int x1)], h)) rfl ?_
    refine go_to hX 20 c_233 rfl rfl ?_
    obtain ⟨h19, e20, hF⟩ := mm_bind hF
    refine go_pV hX c_233 rfl e20 ?_
    refine go_adv hX c_233 1 (F2 := (24, [.ref x0], [(0, .ref x0), (1, .int x1)], h19)) rfl ?_
    obtain ⟨v21, e22, hF⟩ := mm_bind hF
    refine go_gI hX c_233 rfl e22 ?_
    rcases mm_ite hF with ⟨hc23, hF⟩ | ⟨hc23, hF⟩
    · refine go_zt hX 35 c_233 rfl rfl hc23 ?_
      refine go_adv hX c_233 1 (F2 := (36, [.ref x0], [(0, .ref x0), (1, .int x1)], h19)) rfl ?_
      obtain ⟨v24, e25, hF⟩ := mm_bind hF
      refine go_gR hX c_233 rfl e25 ?_
      refine go_adv hX c_233 1 (F2 := (40, [.int x1, .ref v24], [(0, .ref x0), (1, .int x1)], h19)) rfl ?_
      obtain ⟨v26, e27, hF⟩ := mm_bind hF
      refine go_aI hX c_233 rfl e27 ?_
      refine go_adv hX c_233 1 (F2 := (42, [.int ((v26.toUInt32 % 65536).toInt32)], [(0, .ref x0), (1, .int x1)], h19)) rfl ?_
      obtain ⟨v28, e29, hF⟩ := mm_bind hF
      obtain ⟨rfl, e29n⟩ := fx_nar_s e29
      cases hF
      exact go_iret hX c_233 rfl rfl e29n hQ
    · refine go_zf hX c_233 rfl (by decide) hc23 ?_
      refine go_adv hX c_233 1 (F2 := (32, [.int (kb 32)], [(0, .ref x0), (1, .int x1)], h19)) rfl ?_
      refine go_to hX 42 c_233 rfl rfl ?_
      obtain ⟨v30, e31, hF⟩ := mm_bind hF
      obtain ⟨rfl, e31n⟩ := fx_nar_s e31
      cases hF
      exact go_iret hX c_233 rfl rfl e31n hQ
theorem c_234 : mm_cd 234 = k_X6_sumOf := rfl
def F_X6_sumOf_L4 (h : mm_S) : Nat → Nat → Int32 → Int32 → Int32 → Option Int32
  | 0, _, _, _, _ => none
  | n + 1, x0, x1, x2, x3 =>
    (fx_gR h x0 6 0).bind fun v1 =>
    (fx_aI h v1 (ki 0)).bind fun v3 =>
    if v3 ≤ x3 then
      some x2
    else
      (fx_is h x0 6).bind fun _ =>
      (F_X6_sv h x0 x3 x1).bind fun v7 =>
      F_X6_sumOf_L4 h n x0 x1 (x2 + v7) (x3 + ki 1)
def F_X6_sumOf (h : mm_S) (x0 : Nat) (x1 : Int32) : Option Int32 :=
  (F_X6_sumOf_L4 h 1000 x0 x1 (ki 0) (ki 0)).bind fun o9 =>
  some o9
theorem r_X6_sumOf_L4 {X : mm_Cl} (hX : mm_mono X) {d c k : Nat} {Q : mm_Re → Prop} {h : mm_S} : ∀ (n : Nat) (x0 : Nat) (x1 : Int32) (x2 : Int32) (x3 : Int32) (o : Int32), F_X6_sumOf_L4 h n x0 x1 x2 x3 = some o → (mm_Ex (mm_Run X (d + 1)) 234 Q (29, [], [(2, .int o)], h) c k) → mm_Ex (mm_Run X (d + 1)) 234 Q (4, [], [(0, .ref x0), (1, .int x1), (2, .int x2), (3, .int x3)], h) c k := by
  intro n
  induction n with
  | zero => intro x0 x1 x2 x3 o hF; cases hF
  | succ n ih =>
    intro x0 x1 x2 x3 o hF hE
    unfold F_X6_sumOf_L4 at hF
    refine go_adv hX c_234 2 (F2 := (6, [.ref x0, .int x3], [(0, .ref x0), (1, .int x1), (2, .int x2), (3, .int x3)], h)) rfl ?_
    obtain ⟨v1, e2, hF⟩ := mm_bind hF
    refine go_gR hX c_234 rfl e2 ?_
    refine go_adv hX c_234 1 (F2 := (10, [.int (ki 0), .ref v1, .int x3], [(0, .ref x0), (1, .int x1), (2, .int x2), (3, .int x3)], h)) rfl ?_
    obtain ⟨v3, e4, hF⟩ := mm_bind hF
    refine go_aI hX c_234 rfl e4 ?_
    rcases mm_ite hF with ⟨hc5, hF⟩ | ⟨hc5, hF⟩
    · refine go_ct hX 29 c_234 rfl rfl hc5 ?_
      cases hF
      refine go_ls [(2, .int x2)] ⟨rfl, trivial⟩ ?_
      exact hE
    · refine go_cf hX c_234 rfl (by decide) hc5 ?_
      refine go_adv hX c_234 4 (F2 := (18, [.int x1, .int x3, .ref x0, .int x2], [(0, .ref x0), (1, .int x1), (2, .int x2), (3, .int x3)], h)) rfl ?_
      obtain ⟨_, e6, hF⟩ := mm_bind hF
      obtain ⟨v7, e8, hF⟩ := mm_bind hF
      refine go_cV hX (As := [.int x3, .int x1]) (rv := some (.int v7)) (h2 := h) (ci := 6) c_234 rfl (Nat.le_of_ble_eq_true rfl) rfl rfl e6 (by decide) (Nat.le_of_ble_eq_true rfl) (fun Q2 hQ2 => r_X6_sv hX (d := d) e8 hQ2) ?_
      refine go_adv hX c_234 3 (F2 := (26, [], [(3, .int (x3 + ki 1)), (2, .int (x2 + v7)), (0, .ref x0), (1, .int x1)], h)) rfl ?_
      refine go_to hX 4 c_234 rfl rfl ?_
      refine go_ls [(0, .ref x0), (1, .int x1), (2, .int (x2 + v7)), (3, .int (x3 + ki 1))] ⟨rfl, ⟨rfl, ⟨rfl, ⟨rfl, trivial⟩⟩⟩⟩ ?_
      exact ih x0 x1 (x2 + v7) (x3 + ki 1) _ hF hE
theorem r_X6_sumOf {X : mm_Cl} (hX : mm_mono X) {d c k : Nat} {Q : mm_Re → Prop} {h : mm_S} {x0 : Nat} {x1 : Int32} {o : Int32} (hF : F_X6_sumOf h x0 x1 = some o) (hQ : Q (.inl (some (.int o)), h)) : mm_Run X (d + 2) 234 c k [.ref x0, .int x1] h Q := by
  unfold F_X6_sumOf at hF
  refine mm_Run_in (by decide) (by decide) (Nat.le_of_ble_eq_true rfl) ?_
  show mm_Ex (mm_Run X (d + 1)) 234 Q (0, [], [(0, .ref x0), (1, .int x1)], h) c k
  refine go_adv hX c_234 4 (F2 := (4, [], [(3, .int (ki 0)), (2, .int (ki 0)), (0, .ref x0), (1, .int x1)], h)) rfl ?_
  refine go_ls [(0, .ref x0), (1, .int x1), (2, .int (ki 0)), (3, .int (ki 0))] ⟨rfl, ⟨rfl, ⟨rfl, ⟨rfl, trivial⟩⟩⟩⟩ ?_
  obtain ⟨o9, e10, hF⟩ := mm_bind hF
  refine r_X6_sumOf_L4 hX 1000 x0 x1 (ki 0) (ki 0) o9 e10 ?_
  refine go_adv hX c_234 1 (F2 := (30, [.int o9], [(2, .int o9)], h)) rfl ?_
  cases hF
  exact go_iret hX c_234 rfl rfl rfl hQ
theorem c_235 : mm_cd 235 = k_X6_account := rfl
def F_X6_account (h : mm_S) (x0 : Nat) (x1 : Int32) : Option (Int32 × mm_S) :=
  (fx_pV h x0 6 5 (.int (ki 0))).bind fun h1 =>
  if x1 = nI 0 then
    (fx_gR h1 x0 6 0).bind fun v4 =>
    (fx_aI h1 v4 (ki 0)).bind fun v6 =>
    some (v6, h1)
  else if x1 = nI 1 then
    (fx_is h1 x0 6).bind fun _ =>
    (F_X6_landingsOf h1 x0 (ki 2)).bind fun v10 =>
    some (v10, h1)
  else if x1 = nI 2 then
    (fx_gR h1 x0 6 0).bind fun v13 =>
    (fx_aI h1 v13 (ki 1)).bind fun v15 =>
    some (v15, h1)
  else if x1 = nI 3 then
    (fx_gR h1 x0 6 0).bind fun v18 =>
    (fx_aI h1 v18 (ki 2)).bind fun v20 =>
    some (v20, h1)
  else if x1 = nI 4 then
    (fx_is h1 x0 6).bind fun _ =>
    (F_X6_leasedTo h1 x0 (ki 0)).bind fun v24 =>
    (fx_is h1 x0 6).bind fun _ =>
    (F_X6_leasedTo h1 x0 (ki 1)).bind fun v27 =>
    some (v24 + v27, h1)
  else if x1 = nI 5 then
    (fx_is h1 x0 6).bind fun _ =>
    (F_X6_sumOf h1 x0 (ki 3)).bind fun v31 =>
    some (v31, h1)
  else if x1 = nI 6 then
    (fx_gR h1 x0 6 0).bind fun v34 =>
    (fx_aI h1 v34 (ki 4)).bind fun v36 =>
    some (v36, h1)
  else if x1 = nI 7 then
    (fx_gR h1 x0 6 0).bind fun v39 =>
    (fx_aI h1 v39 (ki 5)).bind fun v41 =>
    some (v41, h1)
  else if x1 = nI 8 then
    (fx_gR h1 x0 6 0).bind fun v44 =>
    (fx_aI h1 v44 (kb 6)).bind fun v46 =>
    some (v46, h1)
  else if x1 = nI 9 then
    (fx_gR h1 x0 6 0).bind fun v49 =>
    (fx_aI h1 v49 (kb 7)).bind fun v51 =>
    some (v51, h1)
  else if x1 = nI 10 then
    (fx_gR h1 x0 6 0).bind fun v54 =>
    (fx_aI h1 v54 (kb 8)).bind fun v56 =>
    some (v56, h1)
  else if x1 = nI 11 then
    (fx_gR h1 x0 6 0).bind fun v59 =>
    (fx_aI h1 v59 (kb 9)).bind fun v61 =>
    some (v61, h1)
  else if x1 = nI 12 then
    (fx_gI h1 x0 6 19).bind fun v64 =>
    some (v64, h1)
  else if x1 = nI 13 then
    (fx_gI h1 x0 6 6).bind fun v67 =>
    some (v67, h1)
  else
    (fx_is h1 x0 6).bind fun _ =>
    (F_X6_no h1 x0 (ki 1)).bind fun v70 =>
    some (v70.1, v70.2)
theorem r_X6_account {X : mm_Cl} (hX : mm_mono X) {d c k : Nat} {Q : mm_Re → Prop} {h : mm_S} {x0 : Nat} {x1 : Int32} {o : (Int32 × mm_S)} (hF : F_X6_account h x0 x1 = some o) (hQ : Q (.inl (some (.int o.1)), o.2)) : mm_Run X (d + 3) 235 c k [.ref x0, .int x1] h Q := by
  unfold F_X6_account at hF
  refine mm_Run_in (by decide) (by decide) (Nat.le_of_ble_eq_true rfl) ?_
  show mm_Ex (mm_Run X (d + 2)) 235 Q (0, [], [(0, .ref x0), (1, .int x1)], h) c k
  refine go_adv hX c_235 2 (F2 := (2, [.int (ki 0), .ref x0], [(0, .ref x0), (1, .int x1)], h)) rfl ?_
  obtain ⟨h1, e2, hF⟩ := mm_bind hF
  refine go_pV hX c_235 rfl e2 ?_
  refine go_adv hX c_235 1 (F2 := (6, [.int x1], [(0, .ref x0), (1, .int x1)], h1)) rfl ?_
  rcases mm_ite hF with ⟨hc3, hF⟩ | ⟨hc3, hF⟩
  · refine go_sw hX 76 c_235 rfl hc3 (by decide) (by decide +kernel) ?_
    refine go_adv hX c_235 1 (F2 := (77, [.ref x0], [(0, .ref x0), (1, .int x1)], h1)) rfl ?_
    obtain ⟨v4, e5, hF⟩ := mm_bind hF
    refine go_gR hX c_235 rfl e5 ?_
    refine go_adv hX c_235 1 (F2 := (81, [.int (ki 0), .ref v4], [(0, .ref x0), (1, .int x1)], h1)) rfl ?_
    obtain ⟨v6, e7, hF⟩ := mm_bind hF
    refine go_aI hX c_235 rfl e7 ?_
    cases hF
    exact go_iret hX c_235 rfl rfl rfl hQ
  rcases mm_ite hF with ⟨hc8, hF⟩ | ⟨hc8, hF⟩
  · refine go_sw hX 83 c_235 rfl hc8 (by decide) (by decide +kernel) ?_
    refine go_adv hX c_235 2 (F2 := (85, [.int (ki 2), .ref x0], [(0, .ref x0), (1, .int x1)], h1)) rfl ?_
    obtain ⟨_, e9, hF⟩ := mm_bind hF
    obtain ⟨v10, e11, hF⟩ := mm_bind hF
    refine go_cV hX (As := [.int (ki 2)]) (rv := some (.int v10)) (h2 := h1) (ci := 6) c_235 rfl (Nat.le_of_ble_eq_true rfl) rfl rfl e9 (by decide) (Nat.le_of_ble_eq_true rfl) (fun Q2 hQ2 => r_X6_landingsOf hX (d := d) e11 hQ2) ?_
    cases hF
    exact go_iret hX c_235 rfl rfl rfl hQ
  rcases mm_ite hF with ⟨hc12, hF⟩ | ⟨hc12, hF⟩
  · refine go_sw hX 89 c_235 rfl hc12 (by decide) (by decide +kernel) ?_
    refine go_adv hX c_235 1 (F2 := (90, [.ref x0], [(0, .ref x0), (1, .int x1)], h1)) rfl ?_
    obtain ⟨v13, e14, hF⟩ := mm_bind hF
    refine go_gR hX c_235 rfl e14 ?_
    refine go_adv hX c_235 1 (F2 := (94, [.int (ki 1), .ref v13], [(0, .ref x0), (1, .int x1)], h1)) rfl ?_
    obtain ⟨v15, e16, hF⟩ := mm_bind hF
    refine go_aI hX c_235 rfl e16 ?_
    cases hF
    exact go_iret hX c_235 rfl rfl rfl hQ
  rcases mm_ite hF with ⟨hc17, hF⟩ | ⟨hc17, hF⟩
  · refine go_sw hX 96 c_235 rfl hc17 (by decide) (by decide +kernel) ?_
    refine go_adv hX c_235 1 (F2 := (97, [.ref x0], [(0, .ref x0), (1, .int x1)], h1)) rfl ?_
    obtain ⟨v18, e19, hF⟩ := mm_bind hF
    refine go_gR hX c_235 rfl e19 ?_
    refine go_adv hX c_235 1 (F2 := (101, [.int (ki 2), .ref v18], [(0, .ref x0), (1, .int x1)], h1)) rfl ?_
    obtain ⟨v20, e21, hF⟩ := mm_bind hF
    refine go_aI hX c_235 rfl e21 ?_
    cases hF
    exact go_iret hX c_235 rfl rfl rfl hQ
  rcases mm_ite hF with ⟨hc22, hF⟩ | ⟨hc22, hF⟩
  · refine go_sw hX 103 c_235 rfl hc22 (by decide) (by decide +kernel) ?_
    refine go_adv hX c_235 2 (F2 := (105, [.int (ki 0), .ref x0], [(0, .ref x0), (1, .int x1)], h1)) rfl ?_
    obtain ⟨_, e23, hF⟩ := mm_bind hF
    obtain ⟨v24, e25, hF⟩ := mm_bind hF
    refine go_cV hX (As := [.int (ki 0)]) (rv := some (.int v24)) (h2 := h1) (ci := 6) c_235 rfl (Nat.le_of_ble_eq_true rfl) rfl rfl e23 (by decide) (Nat.le_of_ble_eq_true rfl) (fun Q2 hQ2 => r_X6_leasedTo hX (d := d) e25 hQ2) ?_
    refine go_adv hX c_235 2 (F2 := (110, [.int (ki 1), .ref x0, .int v24], [(0, .ref x0), (1, .int x1)], h1)) rfl ?_
    obtain ⟨_, e26, hF⟩ := mm_bind hF
    obtain ⟨v27, e28, hF⟩ := mm_bind hF
    refine go_cV hX (As := [.int (ki 1)]) (rv := some (.int v27)) (h2 := h1) (ci := 6) c_235 rfl (Nat.le_of_ble_eq_true rfl) rfl rfl e26 (by decide) (Nat.le_of_ble_eq_true rfl) (fun Q2 hQ2 => r_X6_leasedTo hX (d := d) e28 hQ2) ?_
    refine go_adv hX c_235 1 (F2 := (114, [.int (v24 + v27)], [(0, .ref x0), (1, .int x1)], h1)) rfl ?_
    cases hF
    exact go_iret hX c_235 rfl rfl rfl hQ
  rcases mm_ite hF with ⟨hc29, hF⟩ | ⟨hc29, hF⟩
  · refine go_sw hX 115 c_235 rfl hc29 (by decide) (by decide +kernel) ?_
    refine go_adv hX c_235 2 (F2 := (117, [.int (ki 3), .ref x0], [(0, .ref x0), (1, .int x1)], h1)) rfl ?_
    obtain ⟨_, e30, hF⟩ := mm_bind hF
    obtain ⟨v31, e32, hF⟩ := mm_bind hF
    refine go_cV hX (As := [.int (ki 3)]) (rv := some (.int v31)) (h2 := h1) (ci := 6) c_235 rfl (Nat.le_of_ble_eq_true rfl) rfl rfl e30 (by decide) (Nat.le_of_ble_eq_true rfl) (fun Q2 hQ2 => r_X6_sumOf hX (d := d) e32 hQ2) ?_
    cases hF
    exact go_iret hX c_235 rfl rfl rfl hQ
  rcases mm_ite hF with ⟨hc33, hF⟩ | ⟨hc33, hF⟩
  · refine go_sw hX 121 c_235 rfl hc33 (by decide) (by decide +kernel) ?_
    refine go_adv hX c_235 1 (F2 := (122, [.ref x0], [(0, .ref x0), (1, .int x1)], h1)) rfl ?_
    obtain ⟨v34, e35, hF⟩ := mm_bind hF
    refine go_gR hX c_235 rfl e35 ?_
    refine go_adv hX c_235 1 (F2 := (126, [.int (ki 4), .ref v34], [(0, .ref x0), (1, .int x1)], h1)) rfl ?_
    obtain ⟨v36, e37, hF⟩ := mm_bind hF
    refine go_aI hX c_235 rfl e37 ?_
    cases hF
    exact go_iret hX c_235 rfl rfl rfl hQ
  rcases mm_ite hF with ⟨hc38, hF⟩ | ⟨hc38, hF⟩
  · refine go_sw hX 128 c_235 rfl hc38 (by decide) (by decide +kernel) ?_
    refine go_adv hX c_235 1 (F2 := (129, [.ref x0], [(0, .ref x0), (1, .int x1)], h1)) rfl ?_
    obtain ⟨v39, e40, hF⟩ := mm_bind hF
    refine go_gR hX c_235 rfl e40 ?_
    refine go_adv hX c_235 1 (F2 := (133, [.int (ki 5), .ref v39], [(0, .ref x0), (1, .int x1)], h1)) rfl ?_
    obtain ⟨v41, e42, hF⟩ := mm_bind hF
    refine go_aI hX c_235 rfl e42 ?_
    cases hF
    exact go_iret hX c_235 rfl rfl rfl hQ
  rcases mm_ite hF with ⟨hc43, hF⟩ | ⟨hc43, hF⟩
  · refine go_sw hX 135 c_235 rfl hc43 (by decide) (by decide +kernel) ?_
    refine go_adv hX c_235 1 (F2 := (136, [.ref x0], [(0, .ref x0), (1, .int x1)], h1)) rfl ?_
    obtain ⟨v44, e45, hF⟩ := mm_bind hF
    refine go_gR hX c_235 rfl e45 ?_
    refine go_adv hX c_235 1 (F2 := (141, [.int (kb 6), .ref v44], [(0, .ref x0), (1, .int x1)], h1)) rfl ?_
    obtain ⟨v46, e47, hF⟩ := mm_bind hF
    refine go_aI hX c_235 rfl e47 ?_
    cases hF
    exact go_iret hX c_235 rfl rfl rfl hQ
  rcases mm_ite hF with ⟨hc48, hF⟩ | ⟨hc48, hF⟩
  · refine go_sw hX 143 c_235 rfl hc48 (by decide) (by decide +kernel) ?_
    refine go_adv hX c_235 1 (F2 := (144, [.ref x0], [(0, .ref x0), (1, .int x1)], h1)) rfl ?_
    obtain ⟨v49, e50, hF⟩ := mm_bind hF
    refine go_gR hX c_235 rfl e50 ?_
    refine go_adv hX c_235 1 (F2 := (149, [.int (kb 7), .ref v49], [(0, .ref x0), (1, .int x1)], h1)) rfl ?_
    obtain ⟨v51, e52, hF⟩ := mm_bind hF
    refine go_aI hX c_235 rfl e52 ?_
    cases hF
    exact go_iret hX c_235 rfl rfl rfl hQ
  rcases mm_ite hF with ⟨hc53, hF⟩ | ⟨hc53, hF⟩
  · refine go_sw hX 151 c_235 rfl hc53 (by decide) (by decide +kernel) ?_
    refine go_adv hX c_235 1 (F2 := (152, [.ref x0], [(0, .ref x0), (1, .int x1)], h1)) rfl ?_
    obtain ⟨v54, e55, hF⟩ := mm_bind hF
    refine go_gR hX c_235 rfl e55 ?_
    refine go_adv hX c_235 1 (F2 := (157, [.int (kb 8), .ref v54], [(0, .ref x0), (1, .int x1)], h1)) rfl ?_
    obtain ⟨v56, e57, hF⟩ := mm_bind hF
    refine go_aI hX c_235 rfl e57 ?_
    cases hF
    exact go_iret hX c_235 rfl rfl rfl hQ
  rcases mm_ite hF with ⟨hc58, hF⟩ | ⟨hc58, hF⟩
  · refine go_sw hX 159 c_235 rfl hc58 (by decide) (by decide +kernel) ?_
    refine go_adv hX c_235 1 (F2 := (160, [.ref x0], [(0, .ref x0), (1, .int x1)], h1)) rfl ?_
    obtain ⟨v59, e60, hF⟩ := mm_bind hF
    refine go_gR hX c_235 rfl e60 ?_
    refine go_adv hX c_235 1 (F2 := (165, [.int (kb 9), .ref v59], [(0, .ref x0), (1, .int x1)], h1)) rfl ?_
    obtain ⟨v61, e62, hF⟩ := mm_bind hF
    refine go_aI hX c_235 rfl e62 ?_
    cases hF
    exact go_iret hX c_235 rfl rfl rfl hQ
  rcases mm_ite hF with ⟨hc63, hF⟩ | ⟨hc63, hF⟩
  · refine go_sw hX 167 c_235 rfl hc63 (by decide) (by decide +kernel) ?_
    refine go_adv hX c_235 1 (F2 := (168, [.ref x0], [(0, .ref x0), (1, .int x1)], h1)) rfl ?_
    obtain ⟨v64, e65, hF⟩ := mm_bind hF
    refine go_gI hX c_235 rfl e65 ?_
    cases hF
    exact go_iret hX c_235 rfl rfl rfl hQ
  rcases mm_ite hF with ⟨hc66, hF⟩ | ⟨hc66, hF⟩
  · refine go_sw hX 172 c_235 rfl hc66 (by decide) (by decide +kernel) ?_
    refine go_adv hX c_235 1 (F2 := (173, [.ref x0], [(0, .ref x0), (1, .int x1)], h1)) rfl ?_
    obtain ⟨v67, e68, hF⟩ := mm_bind hF
    refine go_gI hX c_235 rfl e68 ?_
    cases hF
    exact go_iret hX c_235 rfl rfl rfl hQ
  refine go_swd hX 14 177 c_235 rfl (by decide) rfl (by decide) (fun i hi => match i, hi with | 0, _ => hc3 | 1, _ => hc8 | 2, _ => hc12 | 3, _ => hc17 | 4, _ => hc22 | 5, _ => hc29 | 6, _ => hc33 | 7, _ => hc38 | 8, _ => hc43 | 9, _ => hc48 | 10, _ => hc53 | 11, _ => hc58 | 12, _ => hc63 | 13, _ => hc66 | j + 14, hj => absurd hj (by omega)) (by decide) ?_
  refine go_adv hX c_235 2 (F2 := (179, [.int (ki 1), .ref x0], [(0, .ref x0), (1, .int x1)], h1)) rfl ?_
  obtain ⟨_, e69, hF⟩ := mm_bind hF
  obtain ⟨v70, e71, hF⟩ := mm_bind hF
  refine go_cV hX (As := [.int (ki 1)]) (rv := some (.int v70.1)) (h2 := v70.2) (ci := 6) c_235 rfl (Nat.le_of_ble_eq_true rfl) rfl rfl e69 (by decide) (Nat.le_of_ble_eq_true rfl) (fun Q2 hQ2 => r_X6_no hX (d := (d + 1)) e71 hQ2) ?_
  cases hF
  exact go_iret hX c_235 rfl rfl rfl hQ
theorem c_236 : mm_cd 236 = k_X6_meanSteps := rfl
def F_X6_meanSteps (h : mm_S) (x0 : Nat) : Option (UInt64 × mm_S) :=
  (fx_gR h x0 6 0).bind fun v1 =>
  (fx_aI h v1 (ki 0)).bind fun v3 =>
  if v3 ≠ 0 then
    (fx_pV h x0 6 5 (.int (ki 0))).bind fun h6 =>
    if v3 ≠ 0 then
      (fx_is h6 x0 6).bind fun _ =>
      (F_X6_sumOf h6 x0 (ki 2)).bind fun v10 =>
      (fx_ddiv (FP.i2d v10) (FP.i2d v3)).bind fun v12 =>
      some (v12, h6)
    else
      some (FP.dconst0, h6)
  else
    (fx_pV h x0 6 5 (.int (ki 1))).bind fun h14 =>
    if v3 ≠ 0 then
      (fx_is h14 x0 6).bind fun _ =>
      (F_X6_sumOf h14 x0 (ki 2)).bind fun v18 =>
      (fx_ddiv (FP.i2d v18) (FP.i2d v3)).bind fun v20 =>
      some (v20, h14)
    else
      some (FP.dconst0, h14)
theorem r_X6_meanSteps {X : mm_Cl} (hX : mm_mono X) {d c k : Nat} {Q : mm_Re → Prop} {h : mm_S} {x0 : Nat} {o : (UInt64 × mm_S)} (hF : F_X6_meanSteps h x0 = some o) (hQ : Q (.inl (some (.double o.1)), o.2)) : mm_Run X (d + 3) 236 c k [.ref x0] h Q := by
  unfold F_X6_meanSteps at hF
  refine mm_Run_in (by decide) (by decide) (Nat.le_of_ble_eq_true rfl) ?_
  show mm_Ex (mm_Run X (d + 2)) 236 Q (0, [], [(0, .ref x0)], h) c k
  refine go_adv hX c_236 1 (F2 := (1, [.ref x0], [(0, .ref x0)], h)) rfl ?_
  obtain ⟨v1, e2, hF⟩ := mm_bind hF
  refine go_gR hX c_236 rfl e2 ?_
  refine go_adv hX c_236 1 (F2 := (5, [.int (ki 0), .ref v1], [(0, .ref x0)], h)) rfl ?_
  obtain ⟨v3, e4, hF⟩ := mm_bind hF
  refine go_aI hX c_236 rfl e4 ?_
  refine go_adv hX c_236 3 (F2 := (9, [.int v3, .ref x0], [(1, .int v3), (0, .ref x0)], h)) rfl ?_
  rcases mm_ite hF with ⟨hc5, hF⟩ | ⟨hc5, hF⟩
  · refine go_zt hX 16 c_236 rfl rfl hc5 ?_
    refine go_adv hX c_236 1 (F2 := (17, [.int (ki 0), .ref x0], [(1, .int v3), (0, .ref x0)], h)) rfl ?_
    obtain ⟨h6, e7, hF⟩ := mm_bind hF
    refine go_pV hX c_236 rfl e7 ?_
    refine go_adv hX c_236 1 (F2 := (21, [.int v3], [(1, .int v3), (0, .ref x0)], h6)) rfl ?_
    rcases mm_ite hF with ⟨hc8, hF⟩ | ⟨hc8, hF⟩
    · refine go_zt hX 28 c_236 rfl rfl hc8 ?_
      refine go_adv hX c_236 2 (F2 := (30, [.int (ki 2), .ref x0], [(1, .int v3), (0, .ref x0)], h6)) rfl ?_
      obtain ⟨_, e9, hF⟩ := mm_bind hF
      obtain ⟨v10, e11, hF⟩ := mm_bind hF
      refine go_cV hX (As := [.int (ki 2)]) (rv := some (.int v10)) (h2 := h6) (ci := 6) c_236 rfl (Nat.le_of_ble_eq_true rfl) rfl rfl e9 (by decide) (Nat.le_of_ble_eq_true rfl) (fun Q2 hQ2 => r_X6_sumOf hX (d := d) e11 hQ2) ?_
      refine go_adv hX c_236 3 (F2 := (36, [.double (FP.i2d v3), .double (FP.i2d v10)], [(1, .int v3), (0, .ref x0)], h6)) rfl ?_
      obtain ⟨v12, e13, hF⟩ := mm_bind hF
      refine go_ddiv hX c_236 rfl e13 ?_
      cases hF
      exact go_dret hX c_236 rfl rfl hQ
    · refine go_zf hX c_236 rfl (by decide) hc8 ?_
      refine go_adv hX c_236 1 (F2 := (25, [.double FP.dconst0], [(1, .int v3), (0, .ref x0)], h6)) rfl ?_
      refine go_to hX 37 c_236 rfl rfl ?_
      cases hF
      exact go_dret hX c_236 rfl rfl hQ
  · refine go_zf hX c_236 rfl (by decide) hc5 ?_
    refine go_adv hX c_236 1 (F2 := (13, [.int (ki 1), .ref x0], [(1, .int v3), (0, .ref x0)], h)) rfl ?_
    refine go_to hX 17 c_236 rfl rfl ?_
    obtain ⟨h14, e15, hF⟩ := mm_bind hF
    refine go_pV hX c_236 rfl e15 ?_
    refine go_adv hX c_236 1 (F2 := (21, [.int v3], [(1, .int v3), (0, .ref x0)], h14)) rfl ?_
    rcases mm_ite hF with ⟨hc16, hF⟩ | ⟨hc16, hF⟩
    · refine go_zt hX 28 c_236 rfl rfl hc16 ?_
      refine go_adv hX c_236 2 (F2 := (30, [.int (ki 2), .ref x0], [(1, .int v3), (0, .ref x0)], h14)) rfl ?_
      obtain ⟨_, e17, hF⟩ := mm_bind hF
      obtain ⟨v18, e19, hF⟩ := mm_bind hF
      refine go_cV hX (As := [.int (ki 2)]) (rv := some (.int v18)) (h2 := h14) (ci := 6) c_236 rfl (Nat.le_of_ble_eq_true rfl) rfl rfl e17 (by decide) (Nat.le_of_ble_eq_true rfl) (fun Q2 hQ2 => r_X6_sumOf hX (d := d) e19 hQ2) ?_
      refine go_adv hX c_236 3 (F2 := (36, [.double (FP.i2d v3), .double (FP.i2d v18)], [(1, .int v3), (0, .ref x0)], h14)) rfl ?_
      obtain ⟨v20, e21, hF⟩ := mm_bind hF
      refine go_ddiv hX c_236 rfl e21 ?_
      cases hF
      exact go_dret hX c_236 rfl rfl hQ
    · refine go_zf hX c_236 rfl (by decide) hc16 ?_
      refine go_adv hX c_236 1 (F2 := (25, [.double FP.dconst0], [(1, .int v3), (0, .ref x0)], h14)) rfl ?_
      refine go_to hX 37 c_236 rfl rfl ?_
      cases hF
      exact go_dret hX c_236 rfl rfl hQ
theorem c_237 : mm_cd 237 = k_X6_leasedShare := rfl
def F_X6_leasedShare_B17 (h : mm_S) (s0 : Int32) (s1 : Nat) (x0 : Nat) (x1 : Int32) : Option (UInt32 × mm_S) :=
  (fx_pV h s1 6 5 (.int s0)).bind fun h6 =>
  if x1 ≠ 0 then
    (fx_is h6 x0 6).bind fun _ =>
    (F_X6_leasedTo h6 x0 (ki 0)).bind fun v10 =>
    (fx_is h6 x0 6).bind fun _ =>
    (F_X6_leasedTo h6 x0 (ki 1)).bind fun v13 =>
    (fx_fdiv (FP.i2f (v10 + v13)) (FP.i2f x1)).bind fun v15 =>
    some (v15, h6)
  else
    some (FP.fconst0, h6)
def F_X6_leasedShare (h : mm_S) (x0 : Nat) : Option (UInt32 × mm_S) :=
  (fx_gR h x0 6 0).bind fun v1 =>
  (fx_aI h v1 (ki 0)).bind fun v3 =>
  if v3 ≠ 0 then
    F_X6_leasedShare_B17 h (ki 0) x0 x0 v3
  else
    F_X6_leasedShare_B17 h (ki 1) x0 x0 v3
theorem r_X6_leasedShare_B17 {X : mm_Cl} (hX : mm_mono X) {d c k : Nat} {Q : mm_Re → Prop} {h : mm_S} {s0 : Int32} {s1 : Nat} {x0 : Nat} {x1 : Int32} {o : (UInt32 × mm_S)} (hF : F_X6_leasedShare_B17 h s0 s1 x0 x1 = some o) (hQ : Q (.inl (some (.float o.1)), o.2)) : mm_Ex (mm_Run X (d + 2)) 237 Q (17, [.int s0, .ref s1], [(0, .ref x0), (1, .int x1)], h) c k := by
  unfold F_X6_leasedShare_B17 at hF
  obtain ⟨h6, e7, hF⟩ := mm_bind hF
  refine go_pV hX c_237 rfl e7 ?_
  refine go_adv hX c_237 1 (F2 := (21, [.int x1], [(0, .ref x0), (1, .int x1)], h6)) rfl ?_
  rcases mm_ite hF with ⟨hc8, hF⟩ | ⟨hc8, hF⟩
  · refine go_zt hX 28 c_237 rfl rfl hc8 ?_
    refine go_adv hX c_237 2 (F2 := (30, [.int (ki 0), .ref x0], [(0, .ref x0), (1, .int x1)], h6)) rfl ?_
    obtain ⟨_, e9, hF⟩ := mm_bind hF
    obtain ⟨v10, e11, hF⟩ := mm_bind hF
    refine go_cV hX (As := [.int (ki 0)]) (rv := some (.int v10)) (h2 := h6) (ci := 6) c_237 rfl (Nat.le_of_ble_eq_true rfl) rfl rfl e9 (by decide) (Nat.le_of_ble_eq_true rfl) (fun Q2 hQ2 => r_X6_leasedTo hX (d := d) e11 hQ2) ?_
    refine go_adv hX c_237 2 (F2 := (35, [.int (ki 1), .ref x0, .int v10], [(0, .ref x0), (1, .int x1)], h6)) rfl ?_
    obtain ⟨_, e12, hF⟩ := mm_bind hF
    obtain ⟨v13, e14, hF⟩ := mm_bind hF
    refine go_cV hX (As := [.int (ki 1)]) (rv := some (.int v13)) (h2 := h6) (ci := 6) c_237 rfl (Nat.le_of_ble_eq_true rfl) rfl rfl e12 (by decide) (Nat.le_of_ble_eq_true rfl) (fun Q2 hQ2 => r_X6_leasedTo hX (d := d) e14 hQ2) ?_
    refine go_adv hX c_237 4 (F2 := (42, [.float (FP.i2f x1), .float (FP.i2f (v10 + v13))], [(0, .ref x0), (1, .int x1)], h6)) rfl ?_
    obtain ⟨v15, e16, hF⟩ := mm_bind hF
    refine go_fdiv hX c_237 rfl e16 ?_
    cases hF
    exact go_fret hX c_237 rfl rfl hQ
  · refine go_zf hX c_237 rfl (by decide) hc8 ?_
    refine go_adv hX c_237 1 (F2 := (25, [.float FP.fconst0], [(0, .ref x0), (1, .int x1)], h6)) rfl ?_
    refine go_to hX 43 c_237 rfl rfl ?_
    cases hF
    exact go_fret hX c_237 rfl rfl hQ
theorem r_X6_leasedShare {X : mm_Cl} (hX : mm_mono X) {d c k : Nat} {Q : mm_Re → Prop} {h : mm_S} {x0 : Nat} {o : (UInt32 × mm_S)} (hF : F_X6_leasedShare h x0 = some o) (hQ : Q (.inl (some (.float o.1)), o.2)) : mm_Run X (d + 3) 237 c k [.ref x0] h Q := by
  unfold F_X6_leasedShare at hF
  refine mm_Run_in (by decide) (by decide) (Nat.le_of_ble_eq_true rfl) ?_
  show mm_Ex (mm_Run X (d + 2)) 237 Q (0, [], [(0, .ref x0)], h) c k
  refine go_adv hX c_237 1 (F2 := (1, [.ref x0], [(0, .ref x0)], h)) rfl ?_
  obtain ⟨v1, e2, hF⟩ := mm_bind hF
  refine go_gR hX c_237 rfl e2 ?_
  refine go_adv hX c_237 1 (F2 := (5, [.int (ki 0), .ref v1], [(0, .ref x0)], h)) rfl ?_
  obtain ⟨v3, e4, hF⟩ := mm_bind hF
  refine go_aI hX c_237 rfl e4 ?_
  refine go_adv hX c_237 3 (F2 := (9, [.int v3, .ref x0], [(1, .int v3), (0, .ref x0)], h)) rfl ?_
  rcases mm_ite hF with ⟨hc5, hF⟩ | ⟨hc5, hF⟩
  · refine go_zt hX 16 c_237 rfl rfl hc5 ?_
    refine go_adv hX c_237 1 (F2 := (17, [.int (ki 0), .ref x0], [(1, .int v3), (0, .ref x0)], h)) rfl ?_
    refine go_ls [(0, .ref x0), (1, .int v3)] ⟨rfl, ⟨rfl, trivial⟩⟩ ?_
    exact r_X6_leasedShare_B17 hX hF hQ
  · refine go_zf hX c_237 rfl (by decide) hc5 ?_
    refine go_adv hX c_237 1 (F2 := (13, [.int (ki 1), .ref x0], [(1, .int v3), (0, .ref x0)], h)) rfl ?_
    refine go_to hX 17 c_237 rfl rfl ?_
    refine go_ls [(0, .ref x0), (1, .int v3)] ⟨rfl, ⟨rfl, trivial⟩⟩ ?_
    exact r_X6_leasedShare_B17 hX hF hQ
theorem c_238 : mm_cd 238 = k_X6_undo := rfl
def F_X6_undo (h : mm_S) (x0 : Nat) : Option (Int32 × mm_S) :=
  (fx_pV h x0 6 5 (.int (ki 0))).bind fun h1 =>
  (fx_gI h1 x0 6 6).bind fun v3 =>
  if v3 ≠ 0 then
    (fx_gI h1 x0 6 6).bind fun v6 =>
    (fx_pV h1 x0 6 6 (.int (v6 - (ki 1)))).bind fun h8 =>
    (fx_gR h8 x0 6 4).bind fun v10 =>
    (fx_gI h8 x0 6 6).bind fun v12 =>
    (fx_gR h8 x0 6 0).bind fun v14 =>
    (F_X6_copies h8 v10 ((kb 110) * v12) v14 (ki 0)).bind fun v16 =>
    (fx_gI v16 x0 6 6).bind fun v18 =>
    some (v18, v16)
  else
    (fx_is h1 x0 6).bind fun _ =>
    (F_X6_no h1 x0 (ki 1)).bind fun v21 =>
    some (v21.1, v21.2)
theorem r_X6_undo {X : mm_Cl} (hX : mm_mono X) {d c k : Nat} {Q : mm_Re → Prop} {h : mm_S} {x0 : Nat} {o : (Int32 × mm_S)} (hF : F_X6_undo h x0 = some o) (hQ : Q (.inl (some (.int o.1)), o.2)) : mm_Run X (d + 2) 238 c k [.ref x0] h Q := by
  unfold F_X6_undo at hF
  refine mm_Run_in (by decide) (by decide) (Nat.le_of_ble_eq_true rfl) ?_
  show mm_Ex (mm_Run X (d + 1)) 238 Q (0, [], [(0, .ref x0)], h) c k
  refine go_adv hX c_238 2 (F2 := (2, [.int (ki 0), .ref x0], [(0, .ref x0)], h)) rfl ?_
  obtain ⟨h1, e2, hF⟩ := mm_bind hF
  refine go_pV hX c_238 rfl e2 ?_
  refine go_adv hX c_238 1 (F2 := (6, [.ref x0], [(0, .ref x0)], h1)) rfl ?_
  obtain ⟨v3, e4, hF⟩ := mm_bind hF
  refine go_gI hX c_238 rfl e4 ?_
  rcases mm_ite hF with ⟨hc5, hF⟩ | ⟨hc5, hF⟩
  · refine go_zt hX 18 c_238 rfl rfl hc5 ?_
    refine go_adv hX c_238 1 (F2 := (19, [.ref x0], [(0, .ref x0)], h1)) rfl ?_
    refine go_p hX c_238 rfl rfl rfl ?_
    obtain ⟨v6, e7, hF⟩ := mm_bind hF
    refine go_gI hX c_238 rfl e7 ?_
    refine go_adv hX c_238 2 (F2 := (25, [.int (v6 - (ki 1)), .ref x0], [(0, .ref x0)], h1)) rfl ?_
    obtain ⟨h8, e9, hF⟩ := mm_bind hF
    refine go_pV hX c_238 rfl e9 ?_
    refine go_adv hX c_238 1 (F2 := (29, [.ref x0], [(0, .ref x0)], h8)) rfl ?_
    obtain ⟨v10, e11, hF⟩ := mm_bind hF
    refine go_gR hX c_238 rfl e11 ?_
    refine go_adv hX c_238 2 (F2 := (35, [.ref x0, .int (kb 110), .ref v10], [(0, .ref x0)], h8)) rfl ?_
    obtain ⟨v12, e13, hF⟩ := mm_bind hF
    refine go_gI hX c_238 rfl e13 ?_
    refine go_adv hX c_238 2 (F2 := (40, [.ref x0, .int ((kb 110) * v12), .ref v10], [(0, .ref x0)], h8)) rfl ?_
    obtain ⟨v14, e15, hF⟩ := mm_bind hF
    refine go_gR hX c_238 rfl e15 ?_
    refine go_adv hX c_238 1 (F2 := (44, [.int (ki 0), .ref v14, .int ((kb 110) * v12), .ref v10], [(0, .ref x0)], h8)) rfl ?_
    obtain ⟨v16, e17, hF⟩ := mm_bind hF
    refine go_cS hX (As := [.ref v10, .int ((kb 110) * v12), .ref v14, .int (ki 0)]) (rv := none) (h2 := v16) c_238 rfl (by decide) (Nat.le_of_ble_eq_true rfl) rfl rfl (Nat.le_of_ble_eq_true rfl) (fun Q2 hQ2 => r_X6_copies hX (d := d) e17 hQ2) ?_
    refine go_adv hX c_238 1 (F2 := (48, [.ref x0], [(0, .ref x0)], v16)) rfl ?_
    obtain ⟨v18, e19, hF⟩ := mm_bind hF
    refine go_gI hX c_238 rfl e19 ?_
    cases hF
    exact go_iret hX c_238 rfl rfl rfl hQ
  · refine go_zf hX c_238 rfl (by decide) hc5 ?_
    refine go_adv hX c_238 2 (F2 := (14, [.int (ki 1), .ref x0], [(0, .ref x0)], h1)) rfl ?_
    obtain ⟨_, e20, hF⟩ := mm_bind hF
    obtain ⟨v21, e22, hF⟩ := mm_bind hF
    refine go_cV hX (As := [.int (ki 1)]) (rv := some (.int v21.1)) (h2 := v21.2) (ci := 6) c_238 rfl (Nat.le_of_ble_eq_true rfl) rfl rfl e20 (by decide) (Nat.le_of_ble_eq_true rfl) (fun Q2 hQ2 => r_X6_no hX (d := d) e22 hQ2) ?_
    cases hF
    exact go_iret hX c_238 rfl rfl rfl hQ
theorem c_239 : mm_cd 239 = k_X6_save := rfl
def F_X6_save (h : mm_S) (x0 : Nat) : Option (Int32 × mm_S) :=
  (fx_pV h x0 6 5 (.int (ki 0))).bind fun h1 =>
  (fx_gR h1 x0 6 0).bind fun v3 =>
  (fx_gR h1 x0 6 3).bind fun v5 =>
  (F_X6_copies h1 v3 (ki 0) v5 (ki 0)).bind fun v7 =>
  (fx_pV v7 x0 6 14 (.int (ki 1))).bind fun h9 =>
  (fx_gR h9 x0 6 0).bind fun v11 =>
  (fx_aI h9 v11 (ki 0)).bind fun v13 =>
  some (v13, h9)
theorem r_X6_save {X : mm_Cl} (hX : mm_mono X) {d c k : Nat} {Q : mm_Re → Prop} {h : mm_S} {x0 : Nat} {o : (Int32 × mm_S)} (hF : F_X6_save h x0 = some o) (hQ : Q (.inl (some (.int o.1)), o.2)) : mm_Run X (d + 2) 239 c k [.ref x0] h Q := by
  unfold F_X6_save at hF
  refine mm_Run_in (by decide) (by decide) (Nat.le_of_ble_eq_true rfl) ?_
  show mm_Ex (mm_Run X (d + 1)) 239 Q (0, [], [(0, .ref x0)], h) c k
  refine go_adv hX c_239 2 (F2 := (2, [.int (ki 0), .ref x0], [(0, .ref x0)], h)) rfl ?_
  obtain ⟨h1, e2, hF⟩ := mm_bind hF
  refine go_pV hX c_239 rfl e2 ?_
  refine go_adv hX c_239 1 (F2 := (6, [.ref x0], [(0, .ref x0)], h1)) rfl ?_
  obtain ⟨v3, e4, hF⟩ := mm_bind hF
  refine go_gR hX c_239 rfl e4 ?_
  refine go_adv hX c_239 2 (F2 := (11, [.ref x0, .int (ki 0), .ref v3], [(0, .ref x0)], h1)) rfl ?_
  obtain ⟨v5, e6, hF⟩ := mm_bind hF
  refine go_gR hX c_239 rfl e6 ?_
  refine go_adv hX c_239 1 (F2 := (15, [.int (ki 0), .ref v5, .int (ki 0), .ref v3], [(0, .ref x0)], h1)) rfl ?_
  obtain ⟨v7, e8, hF⟩ := mm_bind hF
  refine go_cS hX (As := [.ref v3, .int (ki 0), .ref v5, .int (ki 0)]) (rv := none) (h2 := v7) c_239 rfl (by decide) (Nat.le_of_ble_eq_true rfl) rfl rfl (Nat.le_of_ble_eq_true rfl) (fun Q2 hQ2 => r_X6_copies hX (d := d) e8 hQ2) ?_
  refine go_adv hX c_239 2 (F2 := (20, [.int (ki 1), .ref x0], [(0, .ref x0)], v7)) rfl ?_
  obtain ⟨h9, e10, hF⟩ := mm_bind hF
  refine go_pV hX c_239 rfl e10 ?_
  refine go_adv hX c_239 1 (F2 := (24, [.ref x0], [(0, .ref x0)], h9)) rfl ?_
  obtain ⟨v11, e12, hF⟩ := mm_bind hF
  refine go_gR hX c_239 rfl e12 ?_
  refine go_adv hX c_239 1 (F2 := (28, [.int (ki 0), .ref v11], [(0, .ref x0)], h9)) rfl ?_
  obtain ⟨v13, e14, hF⟩ := mm_bind hF
  refine go_aI hX c_239 rfl e14 ?_
  cases hF
  exact go_iret hX c_239 rfl rfl rfl hQ
theorem c_240 : mm_cd 240 = k_X6_restore := rfl
def F_X6_restore (h : mm_S) (x0 : Nat) : Option (Int32 × mm_S) :=
  (fx_pV h x0 6 5 (.int (ki 0))).bind fun h1 =>
  (fx_gI h1 x0 6 14).bind fun v3 =>
  if v3 ≠ 0 then
    (fx_gR h1 x0 6 3).bind fun v6 =>
    (fx_gR h1 x0 6 0).bind fun v8 =>
    (F_X6_copies h1 v6 (ki 0) v8 (ki 0)).bind fun v10 =>
    (fx_pV v10 x0 6 6 (.int (ki 0))).bind fun h12 =>
    (fx_gR h12 x0 6 0).bind fun v14 =>
    (fx_aI h12 v14 (ki 0)).bind fun v16 =>
    some (v16, h12)
  else
    (fx_is h1 x0 6).bind fun _ =>
    (F_X6_no h1 x0 (ki 1)).bind fun v19 =>
    some (v19.1, v19.2)
theorem r_X6_restore {X : mm_Cl} (hX : mm_mono X) {d c k : Nat} {Q : mm_Re → Prop} {h : mm_S} {x0 : Nat} {o : (Int32 × mm_S)} (hF : F_X6_restore h x0 = some o) (hQ : Q (.inl (some (.int o.1)), o.2)) : mm_Run X (d + 2) 240 c k [.ref x0] h Q := by
  unfold F_X6_restore at hF
  refine mm_Run_in (by decide) (by decide) (Nat.le_of_ble_eq_true rfl) ?_
  show mm_Ex (mm_Run X (d + 1)) 240 Q (0, [], [(0, .ref x0)], h) c k
  refine go_adv hX c_240 2 (F2 := (2, [.int (ki 0), .ref x0], [(0, .ref x0)], h)) rfl ?_
  obtain ⟨h1, e2, hF⟩ := mm_bind hF
  refine go_pV hX c_240 rfl e2 ?_
  refine go_adv hX c_240 1 (F2 := (6, [.ref x0], [(0, .ref x0)], h1)) rfl ?_
  obtain ⟨v3, e4, hF⟩ := mm_bind hF
  refine go_gI hX c_240 rfl e4 ?_
  rcases mm_ite hF with ⟨hc5, hF⟩ | ⟨hc5, hF⟩
  · refine go_zt hX 18 c_240 rfl rfl hc5 ?_
    refine go_adv hX c_240 1 (F2 := (19, [.ref x0], [(0, .ref x0)], h1)) rfl ?_
    obtain ⟨v6, e7, hF⟩ := mm_bind hF
    refine go_gR hX c_240 rfl e7 ?_
    refine go_adv hX c_240 2 (F2 := (24, [.ref x0, .int (ki 0), .ref v6], [(0, .ref x0)], h1)) rfl ?_
    obtain ⟨v8, e9, hF⟩ := mm_bind hF
    refine go_gR hX c_240 rfl e9 ?_
    refine go_adv hX c_240 1 (F2 := (28, [.int (ki 0), .ref v8, .int (ki 0), .ref v6], [(0, .ref x0)], h1)) rfl ?_
    obtain ⟨v10, e11, hF⟩ := mm_bind hF
    refine go_cS hX (As := [.ref v6, .int (ki 0), .ref v8, .int (ki 0)]) (rv := none) (h2 := v10) c_240 rfl (by decide) (Nat.le_of_ble_eq_true rfl) rfl rfl (Nat.le_of_ble_eq_true rfl) (fun Q2 hQ2 => r_X6_copies hX (d := d) e11 hQ2) ?_
    refine go_adv hX c_240 2 (F2 := (33, [.int (ki 0), .ref x0], [(0, .ref x0)], v10)) rfl ?_
    obtain ⟨h12, e13, hF⟩ := mm_bind hF
    refine go_pV hX c_240 rfl e13 ?_
    refine go_adv hX c_240 1 (F2 := (37, [.ref x0], [(0, .ref x0)], h12)) rfl ?_
    obtain ⟨v14, e15, hF⟩ := mm_bind hF
    refine go_gR hX c_240 rfl e15 ?_
    refine go_adv hX c_240 1 (F2 := (41, [.int (ki 0), .ref v14], [(0, .ref x0)], h12)) rfl ?_
    obtain ⟨v16, e17, hF⟩ := mm_bind hF
    refine go_aI hX c_240 rfl e17 ?_
    cases hF
    exact go_iret hX c_240 rfl rfl rfl hQ
  · refine go_zf hX c_240 rfl (by decide) hc5 ?_
    refine go_adv hX c_240 2 (F2 := (14, [.int (ki 1), .ref x0], [(0, .ref x0)], h1)) rfl ?_
    obtain ⟨_, e18, hF⟩ := mm_bind hF
    obtain ⟨v19, e20, hF⟩ := mm_bind hF
    refine go_cV hX (As := [.int (ki 1)]) (rv := some (.int v19.1)) (h2 := v19.2) (ci := 6) c_240 rfl (Nat.le_of_ble_eq_true rfl) rfl rfl e18 (by decide) (Nat.le_of_ble_eq_true rfl) (fun Q2 hQ2 => r_X6_no hX (d := d) e20 hQ2) ?_
    cases hF
    exact go_iret hX c_240 rfl rfl rfl hQ

theorem c_20 : mm_cd 20 = k_X2_costFor := rfl
def F_X2_costFor (h : mm_S) (x0 : Nat) (x1 : Int32) : Option Int32 :=
  if x1 = (ki (-1)) then
    (fx_gI h x0 2 2).bind fun v2 =>
    some v2
  else
    (fx_gI h x0 2 5).bind fun v4 =>
    if v4 ≠ x1 then
      (fx_gI h x0 2 2).bind fun v7 =>
      some ((ki 2) * v7)
    else
      (fx_gI h x0 2 2).bind fun v9 =>
      some v9
theorem r_X2_costFor {X : mm_Cl} (hX : mm_mono X) {d c k : Nat} {Q : mm_Re → Prop} {h : mm_S} {x0 : Nat} {x1 : Int32} {o : Int32} (hF : F_X2_costFor h x0 x1 = some o) (hQ : Q (.inl (some (.int o)), h)) : mm_Run X (d + 1) 20 c k [.ref x0, .int x1] h Q := by
  unfold F_X2_costFor at hF
  refine mm_Run_in (by decide) (by decide) (Nat.le_of_ble_eq_true rfl) ?_
  show mm_Ex (mm_Run X d) 20 Q (0, [], [(0, .ref x0), (1, .int x1)], h) c k
  refine go_adv hX c_20 2 (F2 := (2, [.int (ki (-1)), .int x1], [(0, .ref x0), (1, .int x1)], h)) rfl ?_
  rcases mm_ite hF with ⟨hc1, hF⟩ | ⟨hc1, hF⟩
  · refine go_ct hX 13 c_20 rfl rfl hc1 ?_
    refine go_adv hX c_20 1 (F2 := (14, [.ref x0], [(0, .ref x0), (1, .int x1)], h)) rfl ?_
    obtain ⟨v2, e3, hF⟩ := mm_bind hF
    refine go_gI hX c_20 rfl e3 ?_
    refine go_to hX 26 c_20 rfl rfl ?_
    cases hF
    exact go_iret hX c_20 rfl rfl rfl hQ
  · refine go_cf hX c_20 rfl (by decide) hc1 ?_
    refine go_adv hX c_20 1 (F2 := (6, [.ref x0], [(0, .ref x0), (1, .int x1)], h)) rfl ?_
    obtain ⟨v4, e5, hF⟩ := mm_bind hF
    refine go_gI hX c_20 rfl e5 ?_
    refine go_adv hX c_20 1 (F2 := (10, [.int x1, .int v4], [(0, .ref x0), (1, .int x1)], h)) rfl ?_
    rcases mm_ite hF with ⟨hc6, hF⟩ | ⟨hc6, hF⟩
    · refine go_ct hX 20 c_20 rfl rfl hc6 ?_
      refine go_adv hX c_20 2 (F2 := (22, [.ref x0, .int (ki 2)], [(0, .ref x0), (1, .int x1)], h)) rfl ?_
      obtain ⟨v7, e8, hF⟩ := mm_bind hF
      refine go_gI hX c_20 rfl e8 ?_
      refine go_adv hX c_20 1 (F2 := (26, [.int ((ki 2) * v7)], [(0, .ref x0), (1, .int x1)], h)) rfl ?_
      cases hF
      exact go_iret hX c_20 rfl rfl rfl hQ
    · refine go_cf hX c_20 rfl (by decide) hc6 ?_
      refine go_adv hX c_20 1 (F2 := (14, [.ref x0], [(0, .ref x0), (1, .int x1)], h)) rfl ?_
      obtain ⟨v9, e10, hF⟩ := mm_bind hF
      refine go_gI hX c_20 rfl e10 ?_
      refine go_to hX 26 c_20 rfl rfl ?_
      cases hF
      exact go_iret hX c_20 rfl rfl rfl hQ
theorem c_35 : mm_cd 35 = k_X3_goOver := rfl
def F_X3_goOver_B94 (h : mm_S) (x1 : Int32) (x3 : Nat) (x4 : Nat) : Option (Int32 × mm_S) :=
  (fx_gI h x4 2 3).bind fun v23 =>
  (fx_gI h x4 2 3).bind fun v25 =>
  (fx_div v25 (ki 2)).bind fun v27 =>
  (fx_pV h x4 2 3 (.int (v23 - v27))).bind fun h29 =>
  (fx_is h29 x4 2).bind fun _ =>
  (F_X2_costFor h29 x4 x1).bind fun v32 =>
  (fx_gI h29 x3 0 2).bind fun v34 =>
  (fx_pV h29 x3 0 2 (.int (v34 + v32))).bind fun h36 =>
  some (v32, h36)
def F_X3_goOver (h : mm_S) (x0 : Nat) (x1 : Int32) (x2 : Int32) : Option (Int32 × mm_S) :=
  (fx_gR h x0 3 0).bind fun v1 =>
  (fx_aR h v1 x1).bind fun v3 =>
  (fx_gR h x0 3 2).bind fun v5 =>
  (fx_aR h v5 x2).bind fun v7 =>
  (fx_gI h v3 0 1).bind fun v9 =>
  (fx_is h v7 2).bind fun _ =>
  (F_X2_otherEnd h v7 v9).bind fun v12 =>
  (fx_pV h v3 0 1 (.int v12)).bind fun h14 =>
  (fx_gR h14 x0 3 1).bind fun v16 =>
  (fx_gI h14 v3 0 1).bind fun v18 =>
  (fx_aI h14 v16 v18).bind fun v20 =>
  if v20 ≠ ((ki 1) - x1) then
    F_X3_goOver_B94 h14 x1 v3 v7
  else
    (fx_gI h14 v3 0 0).bind fun v38 =>
    if v38 ≤ 0 then
      F_X3_goOver_B94 h14 x1 v3 v7
    else
      (fx_gI h14 v3 0 0).bind fun v41 =>
      (fx_pV h14 v3 0 0 (.int (v41 - (ki 1)))).bind fun h43 =>
      (fx_gR h43 x0 3 0).bind fun v45 =>
      (fx_aR h43 v45 ((ki 1) - x1)).bind fun v47 =>
      (fx_gI h43 v47 0 0).bind fun v49 =>
      (fx_pV h43 v47 0 0 (.int (v49 + (ki 1)))).bind fun h51 =>
      (fx_gR h51 x0 3 0).bind fun v53 =>
      (fx_aR h51 v53 ((ki 1) - x1)).bind fun v55 =>
      (fx_gI h51 v55 0 4).bind fun v57 =>
      (fx_pV h51 v55 0 4 (.int (v57 + (ki 1)))).bind fun h59 =>
      F_X3_goOver_B94 h59 x1 v3 v7
theorem r_X3_goOver_B94 {X : mm_Cl} (hX : mm_mono X) {d c k : Nat} {Q : mm_Re → Prop} {h : mm_S} {x1 : Int32} {x3 : Nat} {x4 : Nat} {o : (Int32 × mm_S)} (hF : F_X3_goOver_B94 h x1 x3 x4 = some o) (hQ : Q (.inl (some (.int o.1)), o.2)) : mm_Ex (mm_Run X (d + 1)) 35 Q (94, [], [(1, .int x1), (3, .ref x3), (4, .ref x4)], h) c k := by
  unfold F_X3_goOver_B94 at hF
  refine go_adv hX c_35 1 (F2 := (96, [.ref x4], [(1, .int x1), (3, .ref x3), (4, .ref x4)], h)) rfl ?_
  refine go_p hX c_35 rfl rfl rfl ?_
  obtain ⟨v23, e24, hF⟩ := mm_bind hF
  refine go_gI hX c_35 rfl e24 ?_
  refine go_adv hX c_35 1 (F2 := (102, [.ref x4, .int v23, .ref x4], [(1, .int x1), (3, .ref x3), (4, .ref x4)], h)) rfl ?_
  obtain ⟨v25, e26, hF⟩ := mm_bind hF
  refine go_gI hX c_35 rfl e26 ?_
  refine go_adv hX c_35 1 (F2 := (106, [.int (ki 2), .int v25, .int v23, .ref x4], [(1, .int x1), (3, .ref x3), (4, .ref x4)], h)) rfl ?_
  obtain ⟨v27, e28, hF⟩ := mm_bind hF
  refine go_div hX c_35 rfl e28 ?_
  refine go_adv hX c_35 1 (F2 := (108, [.int (v23 - v27), .ref x4], [(1, .int x1), (3, .ref x3), (4, .ref x4)], h)) rfl ?_
  obtain ⟨h29, e30, hF⟩ := mm_bind hF
  refine go_pV hX c_35 rfl e30 ?_
  refine go_adv hX c_35 2 (F2 := (114, [.int x1, .ref x4], [(1, .int x1), (3, .ref x3), (4, .ref x4)], h29)) rfl ?_
  obtain ⟨_, e31, hF⟩ := mm_bind hF
  obtain ⟨v32, e33, hF⟩ := mm_bind hF
  refine go_cV hX (As := [.int x1]) (rv := some (.int v32)) (h2 := h29) (ci := 2) c_35 rfl (Nat.le_of_ble_eq_true rfl) rfl rfl e31 (by decide) (Nat.le_of_ble_eq_true rfl) (fun Q2 hQ2 => r_X2_costFor hX (d := d) e33 hQ2) ?_
  refine go_adv hX c_35 2 (F2 := (120, [.ref x3], [(5, .int v32), (1, .int x1), (3, .ref x3), (4, .ref x4)], h29)) rfl ?_
  refine go_p hX c_35 rfl rfl rfl ?_
  obtain ⟨v34, e35, hF⟩ := mm_bind hF
  refine go_gI hX c_35 rfl e35 ?_
  refine go_adv hX c_35 2 (F2 := (127, [.int (v34 + v32), .ref x3], [(5, .int v32), (1, .int x1), (3, .ref x3), (4, .ref x4)], h29)) rfl ?_
  obtain ⟨h36, e37, hF⟩ := mm_bind hF
  refine go_pV hX c_35 rfl e37 ?_
  refine go_adv hX c_35 1 (F2 := (132, [.int v32], [(5, .int v32), (1, .int x1), (3, .ref x3), (4, .ref x4)], h36)) rfl ?_
  cases hF
  exact go_iret hX c_35 rfl rfl rfl hQ
theorem r_X3_goOver {X : mm_Cl} (hX : mm_mono X) {d c k : Nat} {Q : mm_Re → Prop} {h : mm_S} {x0 : Nat} {x1 : Int32} {x2 : Int32} {o : (Int32 × mm_S)} (hF : F_X3_goOver h x0 x1 x2 = some o) (hQ : Q (.inl (some (.int o.1)), o.2)) : mm_Run X (d + 2) 35 c k [.ref x0, .int x1, .int x2] h Q := by
  unfold F_X3_goOver at hF
  refine mm_Run_in (by decide) (by decide) (Nat.le_of_ble_eq_true rfl) ?_
  show mm_Ex (mm_Run X (d + 1)) 35 Q (0, [], [(0, .ref x0), (1, .int x1), (2, .int x2)], h) c k
  refine go_adv hX c_35 1 (F2 := (1, [.ref x0], [(0, .ref x0), (1, .int x1), (2, .int x2)], h)) rfl ?_
  obtain ⟨v1, e2, hF⟩ := mm_bind hF
  refine go_gR hX c_35 rfl e2 ?_
  refine go_adv hX c_35 1 (F2 := (5, [.int x1, .ref v1], [(0, .ref x0), (1, .int x1), (2, .int x2)], h)) rfl ?_
  obtain ⟨v3, e4, hF⟩ := mm_bind hF
  refine go_aR hX c_35 rfl e4 ?_
  refine go_adv hX c_35 2 (F2 := (8, [.ref x0], [(3, .ref v3), (0, .ref x0), (1, .int x1), (2, .int x2)], h)) rfl ?_
  obtain ⟨v5, e6, hF⟩ := mm_bind hF
  refine go_gR hX c_35 rfl e6 ?_
  refine go_adv hX c_35 1 (F2 := (12, [.int x2, .ref v5], [(3, .ref v3), (0, .ref x0), (1, .int x1), (2, .int x2)], h)) rfl ?_
  obtain ⟨v7, e8, hF⟩ := mm_bind hF
  refine go_aR hX c_35 rfl e8 ?_
  refine go_adv hX c_35 4 (F2 := (19, [.ref v3, .ref v7, .ref v3], [(4, .ref v7), (3, .ref v3), (0, .ref x0), (1, .int x1), (2, .int x2)], h)) rfl ?_
  obtain ⟨v9, e10, hF⟩ := mm_bind hF
  refine go_gI hX c_35 rfl e10 ?_
  obtain ⟨_, e11, hF⟩ := mm_bind hF
  obtain ⟨v12, e13, hF⟩ := mm_bind hF
  refine go_cV hX (As := [.int v9]) (rv := some (.int v12)) (h2 := h) (ci := 2) c_35 rfl (Nat.le_of_ble_eq_true rfl) rfl rfl e11 (by decide) (Nat.le_of_ble_eq_true rfl) (fun Q2 hQ2 => r_X2_otherEnd hX (d := d) e13 hQ2) ?_
  obtain ⟨h14, e15, hF⟩ := mm_bind hF
  refine go_pV hX c_35 rfl e15 ?_
  refine go_adv hX c_35 1 (F2 := (29, [.ref x0], [(4, .ref v7), (3, .ref v3), (0, .ref x0), (1, .int x1), (2, .int x2)], h14)) rfl ?_
  obtain ⟨v16, e17, hF⟩ := mm_bind hF
  refine go_gR hX c_35 rfl e17 ?_
  refine go_adv hX c_35 1 (F2 := (33, [.ref v3, .ref v16], [(4, .ref v7), (3, .ref v3), (0, .ref x0), (1, .int x1), (2, .int x2)], h14)) rfl ?_
  obtain ⟨v18, e19, hF⟩ := mm_bind hF
  refine go_gI hX c_35 rfl e19 ?_
  obtain ⟨v20, e21, hF⟩ := mm_bind hF
  refine go_aI hX c_35 rfl e21 ?_
  refine go_adv hX c_35 3 (F2 := (40, [.int ((ki 1) - x1), .int v20], [(4, .ref v7), (3, .ref v3), (0, .ref x0), (1, .int x1), (2, .int x2)], h14)) rfl ?_
  rcases mm_ite hF with ⟨hc22, hF⟩ | ⟨hc22, hF⟩
  · refine go_ct hX 94 c_35 rfl rfl hc22 ?_
    refine go_ls [(1, .int x1), (3, .ref v3), (4, .ref v7)] ⟨rfl, ⟨rfl, ⟨rfl, trivial⟩⟩⟩ ?_
    exact r_X3_goOver_B94 hX hF hQ
  · refine go_cf hX c_35 rfl (by decide) hc22 ?_
    refine go_adv hX c_35 1 (F2 := (44, [.ref v3], [(4, .ref v7), (3, .ref v3), (0, .ref x0), (1, .int x1), (2, .int x2)], h14)) rfl ?_
    obtain ⟨v38, e39, hF⟩ := mm_bind hF
    refine go_gI hX c_35 rfl e39 ?_
    rcases mm_ite hF with ⟨hc40, hF⟩ | ⟨hc40, hF⟩
    · refine go_zt hX 94 c_35 rfl rfl hc40 ?_
      refine go_ls [(1, .int x1), (3, .ref v3), (4, .ref v7)] ⟨rfl, ⟨rfl, ⟨rfl, trivial⟩⟩⟩ ?_
      exact r_X3_goOver_B94 hX hF hQ
    · refine go_zf hX c_35 rfl (by decide) hc40 ?_
      refine go_adv hX c_35 1 (F2 := (51, [.ref v3], [(4, .ref v7), (3, .ref v3), (0, .ref x0), (1, .int x1), (2, .int x2)], h14)) rfl ?_
      refine go_p hX c_35 rfl rfl rfl ?_
      obtain ⟨v41, e42, hF⟩ := mm_bind hF
      refine go_gI hX c_35 rfl e42 ?_
      refine go_adv hX c_35 2 (F2 := (57, [.int (v41 - (ki 1)), .ref v3], [(4, .ref v7), (3, .ref v3), (0, .ref x0), (1, .int x1), (2, .int x2)], h14)) rfl ?_
      obtain ⟨h43, e44, hF⟩ := mm_bind hF
      refine go_pV hX c_35 rfl e44 ?_
      refine go_adv hX c_35 1 (F2 := (61, [.ref x0], [(4, .ref v7), (3, .ref v3), (0, .ref x0), (1, .int x1), (2, .int x2)], h43)) rfl ?_
      obtain ⟨v45, e46, hF⟩ := mm_bind hF
      refine go_gR hX c_35 rfl e46 ?_
      refine go_adv hX c_35 3 (F2 := (67, [.int ((ki 1) - x1), .ref v45], [(4, .ref v7), (3, .ref v3), (0, .ref x0), (1, .int x1), (2, .int x2)], h43)) rfl ?_
      obtain ⟨v47, e48, hF⟩ := mm_bind hF
      refine go_aR hX c_35 rfl e48 ?_
      refine go_p hX c_35 rfl rfl rfl ?_
      obtain ⟨v49, e50, hF⟩ := mm_bind hF
      refine go_gI hX c_35 rfl e50 ?_
      refine go_adv hX c_35 2 (F2 := (74, [.int (v49 + (ki 1)), .ref v47], [(4, .ref v7), (3, .ref v3), (0, .ref x0), (1, .int x1), (2, .int x2)], h43)) rfl ?_
      obtain ⟨h51, e52, hF⟩ := mm_bind hF
      refine go_pV hX c_35 rfl e52 ?_
      refine go_adv hX c_35 1 (F2 := (78, [.ref x0], [(4, .ref v7), (3, .ref v3), (0, .ref x0), (1, .int x1), (2, .int x2)], h51)) rfl ?_
      obtain ⟨v53, e54, hF⟩ := mm_bind hF
      refine go_gR hX c_35 rfl e54 ?_
      refine go_adv hX c_35 3 (F2 := (84, [.int ((ki 1) - x1), .ref v53], [(4, .ref v7), (3, .ref v3), (0, .ref x0), (1, .int x1), (2, .int x2)], h51)) rfl ?_
      obtain ⟨v55, e56, hF⟩ := mm_bind hF
      refine go_aR hX c_35 rfl e56 ?_
      refine go_p hX c_35 rfl rfl rfl ?_
      obtain ⟨v57, e58, hF⟩ := mm_bind hF
      refine go_gI hX c_35 rfl e58 ?_
      refine go_adv hX c_35 2 (F2 := (91, [.int (v57 + (ki 1)), .ref v55], [(4, .ref v7), (3, .ref v3), (0, .ref x0), (1, .int x1), (2, .int x2)], h51)) rfl ?_
      obtain ⟨h59, e60, hF⟩ := mm_bind hF
      refine go_pV hX c_35 rfl e60 ?_
      refine go_ls [(1, .int x1), (3, .ref v3), (4, .ref v7)] ⟨rfl, ⟨rfl, ⟨rfl, trivial⟩⟩⟩ ?_
      exact r_X3_goOver_B94 hX hF hQ
theorem c_265 : mm_cd 265 = k_X3_coinsForDust := rfl
def F_X3_coinsForDust (h : mm_S) (x0 : Nat) (x1 : Int32) (x2 : Int32) : Option Int32 :=
  (fx_gR h x0 3 2).bind fun v1 =>
  (fx_aR h v1 x2).bind fun v3 =>
  (fx_gI h v3 2 3).bind fun v5 =>
  (fx_div v5 (ki 4)).bind fun v7 =>
  (fx_gR h x0 3 0).bind fun v9 =>
  (fx_aR h v9 ((ki 1) - x1)).bind fun v11 =>
  (fx_gI h v11 0 0).bind fun v13 =>
  some (if v13 < v7 then v13 else v7)
theorem r_X3_coinsForDust {X : mm_Cl} (hX : mm_mono X) {d c k : Nat} {Q : mm_Re → Prop} {h : mm_S} {x0 : Nat} {x1 : Int32} {x2 : Int32} {o : Int32} (hF : F_X3_coinsForDust h x0 x1 x2 = some o) (hQ : Q (.inl (some (.int o)), h)) : mm_Run X (d + 1) 265 c k [.ref x0, .int x1, .int x2] h Q := by
  unfold F_X3_coinsForDust at hF
  refine mm_Run_in (by decide) (by decide) (Nat.le_of_ble_eq_true rfl) ?_
  show mm_Ex (mm_Run X d) 265 Q (0, [], [(0, .ref x0), (1, .int x1), (2, .int x2)], h) c k
  refine go_adv hX c_265 1 (F2 := (1, [.ref x0], [(0, .ref x0), (1, .int x1), (2, .int x2)], h)) rfl ?_
  obtain ⟨v1, e2, hF⟩ := mm_bind hF
  refine go_gR hX c_265 rfl e2 ?_
  refine go_adv hX c_265 1 (F2 := (5, [.int x2, .ref v1], [(0, .ref x0), (1, .int x1), (2, .int x2)], h)) rfl ?_
  obtain ⟨v3, e4, hF⟩ := mm_bind hF
  refine go_aR hX c_265 rfl e4 ?_
  obtain ⟨v5, e6, hF⟩ := mm_bind hF
  refine go_gI hX c_265 rfl e6 ?_
  refine go_adv hX c_265 1 (F2 := (10, [.int (ki 4), .int v5], [(0, .ref x0), (1, .int x1), (2, .int x2)], h)) rfl ?_
  obtain ⟨v7, e8, hF⟩ := mm_bind hF
  refine go_div hX c_265 rfl e8 ?_
  refine go_adv hX c_265 1 (F2 := (12, [.ref x0, .int v7], [(0, .ref x0), (1, .int x1), (2, .int x2)], h)) rfl ?_
  obtain ⟨v9, e10, hF⟩ := mm_bind hF
  refine go_gR hX c_265 rfl e10 ?_
  refine go_adv hX c_265 3 (F2 := (18, [.int ((ki 1) - x1), .ref v9, .int v7], [(0, .ref x0), (1, .int x1), (2, .int x2)], h)) rfl ?_
  obtain ⟨v11, e12, hF⟩ := mm_bind hF
  refine go_aR hX c_265 rfl e12 ?_
  obtain ⟨v13, e14, hF⟩ := mm_bind hF
  refine go_gI hX c_265 rfl e14 ?_
  refine go_min hX c_265 rfl (Nat.le_of_ble_eq_true rfl) ?_
  cases hF
  exact go_iret hX c_265 rfl rfl rfl hQ
theorem c_38 : mm_cd 38 = k_X3_levyDust := rfl
def F_X3_levyDust (h : mm_S) (x0 : Nat) (x1 : Int32) (x2 : Int32) : Option (Int32 × mm_S) :=
  (fx_is h x0 3).bind fun _ =>
  (F_X3_coinsForDust h x0 x1 x2).bind fun v2 =>
  (fx_gR h x0 3 0).bind fun v4 =>
  (fx_aR h v4 ((ki 1) - x1)).bind fun v6 =>
  (fx_gI h v6 0 0).bind fun v8 =>
  (fx_pV h v6 0 0 (.int (v8 - v2))).bind fun h10 =>
  (fx_gR h10 x0 3 0).bind fun v12 =>
  (fx_aR h10 v12 x1).bind fun v14 =>
  (fx_gI h10 v14 0 0).bind fun v16 =>
  (fx_pV h10 v14 0 0 (.int (v16 + v2))).bind fun h18 =>
  (fx_gI h18 x0 3 7).bind fun v20 =>
  (fx_pV h18 x0 3 7 (.int (v20 + v2))).bind fun h22 =>
  (fx_gR h22 x0 3 2).bind fun v24 =>
  (fx_aR h22 v24 x2).bind fun v26 =>
  (fx_pV h22 v26 2 3 (.int (ki 0))).bind fun h28 =>
  some (v2, h28)
theorem r_X3_levyDust {X : mm_Cl} (hX : mm_mono X) {d c k : Nat} {Q : mm_Re → Prop} {h : mm_S} {x0 : Nat} {x1 : Int32} {x2 : Int32} {o : (Int32 × mm_S)} (hF : F_X3_levyDust h x0 x1 x2 = some o) (hQ : Q (.inl (some (.int o.1)), o.2)) : mm_Run X (d + 2) 38 c k [.ref x0, .int x1, .int x2] h Q := by
  unfold F_X3_levyDust at hF
  refine mm_Run_in (by decide) (by decide) (Nat.le_of_ble_eq_true rfl) ?_
  show mm_Ex (mm_Run X (d + 1)) 38 Q (0, [], [(0, .ref x0), (1, .int x1), (2, .int x2)], h) c k
  refine go_adv hX c_38 3 (F2 := (3, [.int x2, .int x1, .ref x0], [(0, .ref x0), (1, .int x1), (2, .int x2)], h)) rfl ?_
  obtain ⟨_, e1, hF⟩ := mm_bind hF
  obtain ⟨v2, e3, hF⟩ := mm_bind hF
  refine go_cV hX (As := [.int x1, .int x2]) (rv := some (.int v2)) (h2 := h) (ci := 3) c_38 rfl (Nat.le_of_ble_eq_true rfl) rfl rfl e1 (by decide) (Nat.le_of_ble_eq_true rfl) (fun Q2 hQ2 => r_X3_coinsForDust hX (d := d) e3 hQ2) ?_
  refine go_adv hX c_38 2 (F2 := (8, [.ref x0], [(3, .int v2), (0, .ref x0), (1, .int x1), (2, .int x2)], h)) rfl ?_
  obtain ⟨v4, e5, hF⟩ := mm_bind hF
  refine go_gR hX c_38 rfl e5 ?_
  refine go_adv hX c_38 3 (F2 := (14, [.int ((ki 1) - x1), .ref v4], [(3, .int v2), (0, .ref x0), (1, .int x1), (2, .int x2)], h)) rfl ?_
  obtain ⟨v6, e7, hF⟩ := mm_bind hF
  refine go_aR hX c_38 rfl e7 ?_
  refine go_p hX c_38 rfl rfl rfl ?_
  obtain ⟨v8, e9, hF⟩ := mm_bind hF
  refine go_gI hX c_38 rfl e9 ?_
  refine go_adv hX c_38 2 (F2 := (21, [.int (v8 - v2), .ref v6], [(3, .int v2), (0, .ref x0), (1, .int x1), (2, .int x2)], h)) rfl ?_
  obtain ⟨h10, e11, hF⟩ := mm_bind hF
  refine go_pV hX c_38 rfl e11 ?_
  refine go_adv hX c_38 1 (F2 := (25, [.ref x0], [(3, .int v2), (0, .ref x0), (1, .int x1), (2, .int x2)], h10)) rfl ?_
  obtain ⟨v12, e13, hF⟩ := mm_bind hF
  refine go_gR hX c_38 rfl e13 ?_
  refine go_adv hX c_38 1 (F2 := (29, [.int x1, .ref v12], [(3, .int v2), (0, .ref x0), (1, .int x1), (2, .int x2)], h10)) rfl ?_
  obtain ⟨v14, e15, hF⟩ := mm_bind hF
  refine go_aR hX c_38 rfl e15 ?_
  refine go_p hX c_38 rfl rfl rfl ?_
  obtain ⟨v16, e17, hF⟩ := mm_bind hF
  refine go_gI hX c_38 rfl e17 ?_
  refine go_adv hX c_38 2 (F2 := (36, [.int (v16 + v2), .ref v14], [(3, .int v2), (0, .ref x0), (1, .int x1), (2, .int x2)], h10)) rfl ?_
  obtain ⟨h18, e19, hF⟩ := mm_bind hF
  refine go_pV hX c_38 rfl e19 ?_
  refine go_adv hX c_38 1 (F2 := (40, [.ref x0], [(3, .int v2), (0, .ref x0), (1, .int x1), (2, .int x2)], h18)) rfl ?_
  refine go_p hX c_38 rfl rfl rfl ?_
  obtain ⟨v20, e21, hF⟩ := mm_bind hF
  refine go_gI hX c_38 rfl e21 ?_
  refine go_adv hX c_38 2 (F2 := (46, [.int (v20 + v2), .ref x0], [(3, .int v2), (0, .ref x0), (1, .int x1), (2, .int x2)], h18)) rfl ?_
  obtain ⟨h22, e23, hF⟩ := mm_bind hF
  refine go_pV hX c_38 rfl e23 ?_
  refine go_adv hX c_38 1 (F2 := (50, [.ref x0], [(3, .int v2), (0, .ref x0), (1, .int x1), (2, .int x2)], h22)) rfl ?_
  obtain ⟨v24, e25, hF⟩ := mm_bind hF
  refine go_gR hX c_38 rfl e25 ?_
  refine go_adv hX c_38 1 (F2 := (54, [.int x2, .ref v24], [(3, .int v2), (0, .ref x0), (1, .int x1), (2, .int x2)], h22)) rfl ?_
  obtain ⟨v26, e27, hF⟩ := mm_bind hF
  refine go_aR hX c_38 rfl e27 ?_
  refine go_adv hX c_38 1 (F2 := (56, [.int (ki 0), .ref v26], [(3, .int v2), (0, .ref x0), (1, .int x1), (2, .int x2)], h22)) rfl ?_
  obtain ⟨h28, e29, hF⟩ := mm_bind hF
  refine go_pV hX c_38 rfl e29 ?_
  refine go_adv hX c_38 1 (F2 := (60, [.int v2], [(3, .int v2), (0, .ref x0), (1, .int x1), (2, .int x2)], h28)) rfl ?_
  cases hF
  exact go_iret hX c_38 rfl rfl rfl hQ
theorem c_41 : mm_cd 41 = k_X3_takeLanding := rfl
def F_X3_takeLanding_B64 (h : mm_S) (x0 : Nat) (x1 : Int32) (x2 : Nat) : Option (Int32 × mm_S) :=
  (fx_gR h x0 3 1).bind fun v23 =>
  (fx_gI h x0 3 5).bind fun v25 =>
  (fx_sI h v23 x1 v25).bind fun h27 =>
  (fx_gI h27 x0 3 8).bind fun v29 =>
  (fx_pV h27 x0 3 8 (.int (v29 + (ki 1)))).bind fun h31 =>
  (fx_gI h31 x2 0 0).bind fun v33 =>
  some (v33, h31)
def F_X3_takeLanding (h : mm_S) (x0 : Nat) (x1 : Int32) : Option (Int32 × mm_S) :=
  (fx_gR h x0 3 0).bind fun v1 =>
  (fx_gI h x0 3 5).bind fun v3 =>
  (fx_aR h v1 v3).bind fun v5 =>
  (fx_gI h v5 0 0).bind fun v7 =>
  (fx_is h x0 3).bind fun _ =>
  (F_X3_takingCoins h x0 x1).bind fun v10 =>
  (fx_pV h v5 0 0 (.int (v7 - v10))).bind fun h12 =>
  (fx_gI h12 x0 3 6).bind fun v14 =>
  (fx_pV h12 x0 3 6 (.int (v14 + (ki 5)))).bind fun h16 =>
  (fx_gR h16 x0 3 1).bind fun v18 =>
  (fx_aI h16 v18 x1).bind fun v20 =>
  if v20 = (ki 2) then
    F_X3_takeLanding_B64 h16 x0 x1 v5
  else
    (fx_gR h16 x0 3 0).bind fun v35 =>
    (fx_gI h16 x0 3 5).bind fun v37 =>
    (fx_aR h16 v35 ((ki 1) - v37)).bind fun v39 =>
    (fx_gI h16 v39 0 0).bind fun v41 =>
    (fx_pV h16 v39 0 0 (.int (v41 + (ki 5)))).bind fun h43 =>
    F_X3_takeLanding_B64 h43 x0 x1 v5
theorem r_X3_takeLanding_B64 {X : mm_Cl} (hX : mm_mono X) {d c k : Nat} {Q : mm_Re → Prop} {h : mm_S} {x0 : Nat} {x1 : Int32} {x2 : Nat} {o : (Int32 × mm_S)} (hF : F_X3_takeLanding_B64 h x0 x1 x2 = some o) (hQ : Q (.inl (some (.int o.1)), o.2)) : mm_Ex (mm_Run X (d + 1)) 41 Q (64, [], [(0, .ref x0), (1, .int x1), (2, .ref x2)], h) c k := by
  unfold F_X3_takeLanding_B64 at hF
  refine go_adv hX c_41 1 (F2 := (65, [.ref x0], [(0, .ref x0), (1, .int x1), (2, .ref x2)], h)) rfl ?_
  obtain ⟨v23, e24, hF⟩ := mm_bind hF
  refine go_gR hX c_41 rfl e24 ?_
  refine go_adv hX c_41 2 (F2 := (70, [.ref x0, .int x1, .ref v23], [(0, .ref x0), (1, .int x1), (2, .ref x2)], h)) rfl ?_
  obtain ⟨v25, e26, hF⟩ := mm_bind hF
  refine go_gI hX c_41 rfl e26 ?_
  obtain ⟨h27, e28, hF⟩ := mm_bind hF
  refine go_sI hX c_41 rfl e28 ?_
  refine go_adv hX c_41 1 (F2 := (75, [.ref x0], [(0, .ref x0), (1, .int x1), (2, .ref x2)], h27)) rfl ?_
  refine go_p hX c_41 rfl rfl rfl ?_
  obtain ⟨v29, e30, hF⟩ := mm_bind hF
  refine go_gI hX c_41 rfl e30 ?_
  refine go_adv hX c_41 2 (F2 := (81, [.int (v29 + (ki 1)), .ref x0], [(0, .ref x0), (1, .int x1), (2, .ref x2)], h27)) rfl ?_
  obtain ⟨h31, e32, hF⟩ := mm_bind hF
  refine go_pV hX c_41 rfl e32 ?_
  refine go_adv hX c_41 1 (F2 := (85, [.ref x2], [(0, .ref x0), (1, .int x1), (2, .ref x2)], h31)) rfl ?_
  obtain ⟨v33, e34, hF⟩ := mm_bind hF
  refine go_gI hX c_41 rfl e34 ?_
  cases hF
  exact go_iret hX c_41 rfl rfl rfl hQ
theorem r_X3_takeLanding {X : mm_Cl} (hX : mm_mono X) {d c k : Nat} {Q : mm_Re → Prop} {h : mm_S} {x0 : Nat} {x1 : Int32} {o : (Int32 × mm_S)} (hF : F_X3_takeLanding h x0 x1 = some o) (hQ : Q (.inl (some (.int o.1)), o.2)) : mm_Run X (d + 2) 41 c k [.ref x0, .int x1] h Q := by
  unfold F_X3_takeLanding at hF
  refine mm_Run_in (by decide) (by decide) (Nat.le_of_ble_eq_true rfl) ?_
  show mm_Ex (mm_Run X (d + 1)) 41 Q (0, [], [(0, .ref x0), (1, .int x1)], h) c k
  refine go_adv hX c_41 1 (F2 := (1, [.ref x0], [(0, .ref x0), (1, .int x1)], h)) rfl ?_
  obtain ⟨v1, e2, hF⟩ := mm_bind hF
  refine go_gR hX c_41 rfl e2 ?_
  refine go_adv hX c_41 1 (F2 := (5, [.ref x0, .ref v1], [(0, .ref x0), (1, .int x1)], h)) rfl ?_
  obtain ⟨v3, e4, hF⟩ := mm_bind hF
  refine go_gI hX c_41 rfl e4 ?_
  obtain ⟨v5, e6, hF⟩ := mm_bind hF
  refine go_aR hX c_41 rfl e6 ?_
  refine go_adv hX c_41 2 (F2 := (11, [.ref v5], [(2, .ref v5), (0, .ref x0), (1, .int x1)], h)) rfl ?_
  refine go_p hX c_41 rfl rfl rfl ?_
  obtain ⟨v7, e8, hF⟩ := mm_bind hF
  refine go_gI hX c_41 rfl e8 ?_
  refine go_adv hX c_41 2 (F2 := (17, [.int x1, .ref x0, .int v7, .ref v5], [(2, .ref v5), (0, .ref x0), (1, .int x1)], h)) rfl ?_
  obtain ⟨_, e9, hF⟩ := mm_bind hF
  obtain ⟨v10, e11, hF⟩ := mm_bind hF
  refine go_cV hX (As := [.int x1]) (rv := some (.int v10)) (h2 := h) (ci := 3) c_41 rfl (Nat.le_of_ble_eq_true rfl) rfl rfl e9 (by decide) (Nat.le_of_ble_eq_true rfl) (fun Q2 hQ2 => r_X3_takingCoins hX (d := d) e11 hQ2) ?_
  refine go_adv hX c_41 1 (F2 := (21, [.int (v7 - v10), .ref v5], [(2, .ref v5), (0, .ref x0), (1, .int x1)], h)) rfl ?_
  obtain ⟨h12, e13, hF⟩ := mm_bind hF
  refine go_pV hX c_41 rfl e13 ?_
  refine go_adv hX c_41 1 (F2 := (25, [.ref x0], [(2, .ref v5), (0, .ref x0), (1, .int x1)], h12)) rfl ?_
  refine go_p hX c_41 rfl rfl rfl ?_
  obtain ⟨v14, e15, hF⟩ := mm_bind hF
  refine go_gI hX c_41 rfl e15 ?_
  refine go_adv hX c_41 2 (F2 := (31, [.int (v14 + (ki 5)), .ref x0], [(2, .ref v5), (0, .ref x0), (1, .int x1)], h12)) rfl ?_
  obtain ⟨h16, e17, hF⟩ := mm_bind hF
  refine go_pV hX c_41 rfl e17 ?_
  refine go_adv hX c_41 1 (F2 := (35, [.ref x0], [(2, .ref v5), (0, .ref x0), (1, .int x1)], h16)) rfl ?_
  obtain ⟨v18, e19, hF⟩ := mm_bind hF
  refine go_gR hX c_41 rfl e19 ?_
  refine go_adv hX c_41 1 (F2 := (39, [.int x1, .ref v18], [(2, .ref v5), (0, .ref x0), (1, .int x1)], h16)) rfl ?_
  obtain ⟨v20, e21, hF⟩ := mm_bind hF
  refine go_aI hX c_41 rfl e21 ?_
  refine go_adv hX c_41 1 (F2 := (41, [.int (ki 2), .int v20], [(2, .ref v5), (0, .ref x0), (1, .int x1)], h16)) rfl ?_
  rcases mm_ite hF with ⟨hc22, hF⟩ | ⟨hc22, hF⟩
  · refine go_ct hX 64 c_41 rfl rfl hc22 ?_
    refine go_ls [(0, .ref x0), (1, .int x1), (2, .ref v5)] ⟨rfl, ⟨rfl, ⟨rfl, trivial⟩⟩⟩ ?_
    exact r_X3_takeLanding_B64 hX hF hQ
  · refine go_cf hX c_41 rfl (by decide) hc22 ?_
    refine go_adv hX c_41 1 (F2 := (45, [.ref x0], [(2, .ref v5), (0, .ref x0), (1, .int x1)], h16)) rfl ?_
    obtain ⟨v35, e36, hF⟩ := mm_bind hF
    refine go_gR hX c_41 rfl e36 ?_
    refine go_adv hX c_41 2 (F2 := (50, [.ref x0, .int (ki 1), .ref v35], [(2, .ref v5), (0, .ref x0), (1, .int x1)], h16)) rfl ?_
    obtain ⟨v37, e38, hF⟩ := mm_bind hF
    refine go_gI hX c_41 rfl e38 ?_
    refine go_adv hX c_41 1 (F2 := (54, [.int ((ki 1) - v37), .ref v35], [(2, .ref v5), (0, .ref x0), (1, .int x1)], h16)) rfl ?_
    obtain ⟨v39, e40, hF⟩ := mm_bind hF
    refine go_aR hX c_41 rfl e40 ?_
    refine go_p hX c_41 rfl rfl rfl ?_
    obtain ⟨v41, e42, hF⟩ := mm_bind hF
    refine go_gI hX c_41 rfl e42 ?_
    refine go_adv hX c_41 2 (F2 := (61, [.int (v41 + (ki 5)), .ref v39], [(2, .ref v5), (0, .ref x0), (1, .int x1)], h16)) rfl ?_
    obtain ⟨h43, e44, hF⟩ := mm_bind hF
    refine go_pV hX c_41 rfl e44 ?_
    refine go_ls [(0, .ref x0), (1, .int x1), (2, .ref v5)] ⟨rfl, ⟨rfl, ⟨rfl, trivial⟩⟩⟩ ?_
    exact r_X3_takeLanding_B64 hX hF hQ
theorem c_43 : mm_cd 43 = k_X3_freeLanding := rfl
def F_X3_freeLanding (h : mm_S) (x0 : Nat) (x1 : Int32) (x2 : Int32) : Option (Int32 × mm_S) :=
  (fx_gR h x0 3 1).bind fun v1 =>
  (fx_sI h v1 x2 (ki 2)).bind fun h3 =>
  (fx_is h3 x0 3).bind fun _ =>
  (F_X3_landingsOf h3 x0 x1).bind fun v6 =>
  some (v6, h3)
theorem r_X3_freeLanding {X : mm_Cl} (hX : mm_mono X) {d c k : Nat} {Q : mm_Re → Prop} {h : mm_S} {x0 : Nat} {x1 : Int32} {x2 : Int32} {o : (Int32 × mm_S)} (hF : F_X3_freeLanding h x0 x1 x2 = some o) (hQ : Q (.inl (some (.int o.1)), o.2)) : mm_Run X (d + 2) 43 c k [.ref x0, .int x1, .int x2] h Q := by
  unfold F_X3_freeLanding at hF
  refine mm_Run_in (by decide) (by decide) (Nat.le_of_ble_eq_true rfl) ?_
  show mm_Ex (mm_Run X (d + 1)) 43 Q (0, [], [(0, .ref x0), (1, .int x1), (2, .int x2)], h) c k
  refine go_adv hX c_43 1 (F2 := (1, [.ref x0], [(0, .ref x0), (1, .int x1), (2, .int x2)], h)) rfl ?_
  obtain ⟨v1, e2, hF⟩ := mm_bind hF
  refine go_gR hX c_43 rfl e2 ?_
  refine go_adv hX c_43 2 (F2 := (6, [.int (ki 2), .int x2, .ref v1], [(0, .ref x0), (1, .int x1), (2, .int x2)], h)) rfl ?_
  obtain ⟨h3, e4, hF⟩ := mm_bind hF
  refine go_sI hX c_43 rfl e4 ?_
  refine go_adv hX c_43 2 (F2 := (9, [.int x1, .ref x0], [(0, .ref x0), (1, .int x1), (2, .int x2)], h3)) rfl ?_
  obtain ⟨_, e5, hF⟩ := mm_bind hF
  obtain ⟨v6, e7, hF⟩ := mm_bind hF
  refine go_cV hX (As := [.int x1]) (rv := some (.int v6)) (h2 := h3) (ci := 3) c_43 rfl (Nat.le_of_ble_eq_true rfl) rfl rfl e5 (by decide) (Nat.le_of_ble_eq_true rfl) (fun Q2 hQ2 => r_X3_landingsOf hX (d := d) e7 hQ2) ?_
  cases hF
  exact go_iret hX c_43 rfl rfl rfl hQ
theorem c_19 : mm_cd 19 = k_X2_dustPerDay := rfl
def F_X2_dustPerDay (h : mm_S) (x0 : Nat) : Option Int32 :=
  (fx_gI h x0 2 2).bind fun v1 =>
  (fx_div v1 (ki 5)).bind fun v3 =>
  some ((ki 1) + v3)
theorem r_X2_dustPerDay {X : mm_Cl} (hX : mm_mono X) {d c k : Nat} {Q : mm_Re → Prop} {h : mm_S} {x0 : Nat} {o : Int32} (hF : F_X2_dustPerDay h x0 = some o) (hQ : Q (.inl (some (.int o)), h)) : mm_Run X (d + 1) 19 c k [.ref x0] h Q := by
  unfold F_X2_dustPerDay at hF
  refine mm_Run_in (by decide) (by decide) (Nat.le_of_ble_eq_true rfl) ?_
  show mm_Ex (mm_Run X d) 19 Q (0, [], [(0, .ref x0)], h) c k
  refine go_adv hX c_19 2 (F2 := (2, [.ref x0, .int (ki 1)], [(0, .ref x0)], h)) rfl ?_
  obtain ⟨v1, e2, hF⟩ := mm_bind hF
  refine go_gI hX c_19 rfl e2 ?_
  refine go_adv hX c_19 1 (F2 := (6, [.int (ki 5), .int v1, .int (ki 1)], [(0, .ref x0)], h)) rfl ?_
  obtain ⟨v3, e4, hF⟩ := mm_bind hF
  refine go_div hX c_19 rfl e4 ?_
  refine go_adv hX c_19 1 (F2 := (8, [.int ((ki 1) + v3)], [(0, .ref x0)], h)) rfl ?_
  cases hF
  exact go_iret hX c_19 rfl rfl rfl hQ
theorem c_45 : mm_cd 45 = k_X3_giveRent := rfl
def F_X3_giveRent (h : mm_S) (x0 : Nat) (x1 : Nat) : Option (Int32 × mm_S) :=
  (fx_is h x1 2).bind fun _ =>
  (F_X2_isLeased h x1).bind fun v2 =>
  if v2 ≠ 0 then
    (fx_gR h x0 3 0).bind fun v5 =>
    (fx_gI h x1 2 5).bind fun v7 =>
    (fx_aR h v5 v7).bind fun v9 =>
    (fx_is h x1 2).bind fun _ =>
    (F_X2_rent h x1).bind fun v12 =>
    (fx_gI h v9 0 0).bind fun v14 =>
    if v12 ≤ v14 then
      (fx_gI h v9 0 0).bind fun v17 =>
      (fx_pV h v9 0 0 (.int (v17 - v12))).bind fun h19 =>
      (fx_gI h19 v9 0 3).bind fun v21 =>
      (fx_pV h19 v9 0 3 (.int (v21 + v12))).bind fun h23 =>
      (fx_gI h23 x0 3 6).bind fun v25 =>
      (fx_pV h23 x0 3 6 (.int (v25 + v12))).bind fun h27 =>
      (fx_gI h27 x1 2 6).bind fun v29 =>
      (fx_pV h27 x1 2 6 (.int (v29 - (ki 1)))).bind fun h31 =>
      (fx_gI h31 x1 2 6).bind fun v33 =>
      if v33 ≠ 0 then
        some (v12, h31)
      else
        (fx_is h31 x1 2).bind fun _ =>
        (F_X2_endLease h31 x1).bind fun v37 =>
        some (v12, v37)
    else
      (fx_is h x1 2).bind fun _ =>
      (F_X2_endLease h x1).bind fun v40 =>
      some (ki 0, v40)
  else
    some (ki 0, h)
theorem r_X3_giveRent {X : mm_Cl} (hX : mm_mono X) {d c k : Nat} {Q : mm_Re → Prop} {h : mm_S} {x0 : Nat} {x1 : Nat} {o : (Int32 × mm_S)} (hF : F_X3_giveRent h x0 x1 = some o) (hQ : Q (.inl (some (.int o.1)), o.2)) : mm_Run X (d + 4) 45 c k [.ref x0, .ref x1] h Q := by
  unfold F_X3_giveRent at hF
  refine mm_Run_in (by decide) (by decide) (Nat.le_of_ble_eq_true rfl) ?_
  show mm_Ex (mm_Run X (d + 3)) 45 Q (0, [], [(0, .ref x0), (1, .ref x1)], h) c k
  refine go_adv hX c_45 1 (F2 := (1, [.ref x1], [(0, .ref x0), (1, .ref x1)], h)) rfl ?_
  obtain ⟨_, e1, hF⟩ := mm_bind hF
  obtain ⟨v2, e3, hF⟩ := mm_bind hF
  refine go_cV hX (As := []) (rv := some (.int v2)) (h2 := h) (ci := 2) c_45 rfl (Nat.le_of_ble_eq_true rfl) rfl rfl e1 (by decide) (Nat.le_of_ble_eq_true rfl) (fun Q2 hQ2 => r_X2_isLeased hX (d := d) e3 hQ2) ?_
  rcases mm_ite hF with ⟨hc4, hF⟩ | ⟨hc4, hF⟩
  · refine go_zt hX 9 c_45 rfl rfl hc4 ?_
    refine go_adv hX c_45 1 (F2 := (10, [.ref x0], [(0, .ref x0), (1, .ref x1)], h)) rfl ?_
    obtain ⟨v5, e6, hF⟩ := mm_bind hF
    refine go_gR hX c_45 rfl e6 ?_
    refine go_adv hX c_45 1 (F2 := (14, [.ref x1, .ref v5], [(0, .ref x0), (1, .ref x1)], h)) rfl ?_
    obtain ⟨v7, e8, hF⟩ := mm_bind hF
    refine go_gI hX c_45 rfl e8 ?_
    obtain ⟨v9, e10, hF⟩ := mm_bind hF
    refine go_aR hX c_45 rfl e10 ?_
    refine go_adv hX c_45 2 (F2 := (20, [.ref x1], [(2, .ref v9), (0, .ref x0), (1, .ref x1)], h)) rfl ?_
    obtain ⟨_, e11, hF⟩ := mm_bind hF
    obtain ⟨v12, e13, hF⟩ := mm_bind hF
    refine go_cV hX (As := []) (rv := some (.int v12)) (h2 := h) (ci := 2) c_45 rfl (Nat.le_of_ble_eq_true rfl) rfl rfl e11 (by decide) (Nat.le_of_ble_eq_true rfl) (fun Q2 hQ2 => r_X2_rent hX (d := (d + 2)) e13 hQ2) ?_
    refine go_adv hX c_45 2 (F2 := (25, [.ref v9], [(3, .int v12), (2, .ref v9), (0, .ref x0), (1, .ref x1)], h)) rfl ?_
    obtain ⟨v14, e15, hF⟩ := mm_bind hF
    refine go_gI hX c_45 rfl e15 ?_
    refine go_adv hX c_45 1 (F2 := (29, [.int v12, .int v14], [(3, .int v12), (2, .ref v9), (0, .ref x0), (1, .ref x1)], h)) rfl ?_
    rcases mm_ite hF with ⟨hc16, hF⟩ | ⟨hc16, hF⟩
    · refine go_ct hX 38 c_45 rfl rfl hc16 ?_
      refine go_adv hX c_45 1 (F2 := (39, [.ref v9], [(3, .int v12), (2, .ref v9), (0, .ref x0), (1, .ref x1)], h)) rfl ?_
      refine go_p hX c_45 rfl rfl rfl ?_
      obtain ⟨v17, e18, hF⟩ := mm_bind hF
      refine go_gI hX c_45 rfl e18 ?_
      refine go_adv hX c_45 2 (F2 := (45, [.int (v17 - v12), .ref v9], [(3, .int v12), (2, .ref v9), (0, .ref x0), (1, .ref x1)], h)) rfl ?_
      obtain ⟨h19, e20, hF⟩ := mm_bind hF
      refine go_pV hX c_45 rfl e20 ?_
      refine go_adv hX c_45 1 (F2 := (49, [.ref v9], [(3, .int v12), (2, .ref v9), (0, .ref x0), (1, .ref x1)], h19)) rfl ?_
      refine go_p hX c_45 rfl rfl rfl ?_
      obtain ⟨v21, e22, hF⟩ := mm_bind hF
      refine go_gI hX c_45 rfl e22 ?_
      refine go_adv hX c_45 2 (F2 := (55, [.int (v21 + v12), .ref v9], [(3, .int v12), (2, .ref v9), (0, .ref x0), (1, .ref x1)], h19)) rfl ?_
      obtain ⟨h23, e24, hF⟩ := mm_bind hF
      refine go_pV hX c_45 rfl e24 ?_
      refine go_adv hX c_45 1 (F2 := (59, [.ref x0], [(3, .int v12), (2, .ref v9), (0, .ref x0), (1, .ref x1)], h23)) rfl ?_
      refine go_p hX c_45 rfl rfl rfl ?_
      obtain ⟨v25, e26, hF⟩ := mm_bind hF
      refine go_gI hX c_45 rfl e26 ?_
      refine go_adv hX c_45 2 (F2 := (65, [.int (v25 + v12), .ref x0], [(3, .int v12), (2, .ref v9), (0, .ref x0), (1, .ref x1)], h23)) rfl ?_
      obtain ⟨h27, e28, hF⟩ := mm_bind hF
      refine go_pV hX c_45 rfl e28 ?_
      refine go_adv hX c_45 1 (F2 := (69, [.ref x1], [(3, .int v12), (2, .ref v9), (0, .ref x0), (1, .ref x1)], h27)) rfl ?_
      refine go_p hX c_45 rfl rfl rfl ?_
      obtain ⟨v29, e30, hF⟩ := mm_bind hF
      refine go_gI hX c_45 rfl e30 ?_
      refine go_adv hX c_45 2 (F2 := (75, [.int (v29 - (ki 1)), .ref x1], [(3, .int v12), (2, .ref v9), (0, .ref x0), (1, .ref x1)], h27)) rfl ?_
      obtain ⟨h31, e32, hF⟩ := mm_bind hF
      refine go_pV hX c_45 rfl e32 ?_
      refine go_adv hX c_45 1 (F2 := (79, [.ref x1], [(3, .int v12), (2, .ref v9), (0, .ref x0), (1, .ref x1)], h31)) rfl ?_
      obtain ⟨v33, e34, hF⟩ := mm_bind hF
      refine go_gI hX c_45 rfl e34 ?_
      rcases mm_ite hF with ⟨hc35, hF⟩ | ⟨hc35, hF⟩
      · refine go_zt hX 89 c_45 rfl rfl hc35 ?_
        refine go_adv hX c_45 1 (F2 := (90, [.int v12], [(3, .int v12), (2, .ref v9), (0, .ref x0), (1, .ref x1)], h31)) rfl ?_
        cases hF
        exact go_iret hX c_45 rfl rfl rfl hQ
      · refine go_zf hX c_45 rfl (by decide) hc35 ?_
        refine go_adv hX c_45 1 (F2 := (86, [.ref x1], [(3, .int v12), (2, .ref v9), (0, .ref x0), (1, .ref x1)], h31)) rfl ?_
        obtain ⟨_, e36, hF⟩ := mm_bind hF
        obtain ⟨v37, e38, hF⟩ := mm_bind hF
        refine go_cV hX (As := []) (rv := none) (h2 := v37) (ci := 2) c_45 rfl (Nat.le_of_ble_eq_true rfl) rfl rfl e36 (by decide) (Nat.le_of_ble_eq_true rfl) (fun Q2 hQ2 => r_X2_endLease hX (d := (d + 2)) e38 hQ2) ?_
        refine go_adv hX c_45 1 (F2 := (90, [.int v12], [(3, .int v12), (2, .ref v9), (0, .ref x0), (1, .ref x1)], v37)) rfl ?_
        cases hF
        exact go_iret hX c_45 rfl rfl rfl hQ
    · refine go_cf hX c_45 rfl (by decide) hc16 ?_
      refine go_adv hX c_45 1 (F2 := (33, [.ref x1], [(3, .int v12), (2, .ref v9), (0, .ref x0), (1, .ref x1)], h)) rfl ?_
      obtain ⟨_, e39, hF⟩ := mm_bind hF
      obtain ⟨v40, e41, hF⟩ := mm_bind hF
      refine go_cV hX (As := []) (rv := none) (h2 := v40) (ci := 2) c_45 rfl (Nat.le_of_ble_eq_true rfl) rfl rfl e39 (by decide) (Nat.le_of_ble_eq_true rfl) (fun Q2 hQ2 => r_X2_endLease hX (d := (d + 2)) e41 hQ2) ?_
      refine go_adv hX c_45 1 (F2 := (37, [.int (ki 0)], [(3, .int v12), (2, .ref v9), (0, .ref x0), (1, .ref x1)], v40)) rfl ?_
      cases hF
      exact go_iret hX c_45 rfl rfl rfl hQ
  · refine go_zf hX c_45 rfl (by decide) hc4 ?_
    refine go_adv hX c_45 1 (F2 := (8, [.int (ki 0)], [(0, .ref x0), (1, .ref x1)], h)) rfl ?_
    cases hF
    exact go_iret hX c_45 rfl rfl rfl hQ
theorem c_44 : mm_cd 44 = k_X3_passDay := rfl
def F_X3_passDay_L4 : Nat → Nat → Int32 → Int32 → mm_S → Option (Int32 × mm_S)
  | 0, _, _, _, _ => none
  | n + 1, x0, x1, x2, h =>
    (fx_gI h x0 3 3).bind fun v1 =>
    if v1 ≤ x2 then
      some ((x1, h))
    else
      (fx_gR h x0 3 2).bind fun v4 =>
      (fx_aR h v4 x2).bind fun v6 =>
      (fx_gI h v6 2 3).bind fun v8 =>
      (fx_is h v6 2).bind fun _ =>
      (F_X2_dustPerDay h v6).bind fun v11 =>
      (fx_pV h v6 2 3 (.int (if (v8 + v11) < (kb 20) then (v8 + v11) else (kb 20)))).bind fun h13 =>
      (fx_is h13 x0 3).bind fun _ =>
      (F_X3_giveRent h13 x0 v6).bind fun v16 =>
      F_X3_passDay_L4 n x0 (x1 + v16.1) (x2 + ki 1) v16.2
def F_X3_passDay (h : mm_S) (x0 : Nat) : Option (Int32 × mm_S) :=
  (F_X3_passDay_L4 1000 x0 (ki 0) (ki 0) h).bind fun o18 =>
  (fx_gI o18.2 x0 3 4).bind fun v20 =>
  (fx_pV o18.2 x0 3 4 (.int (v20 + (ki 1)))).bind fun h22 =>
  (fx_gI h22 x0 3 5).bind fun v24 =>
  (fx_pV h22 x0 3 5 (.int ((ki 1) - v24))).bind fun h26 =>
  some (o18.1, h26)
theorem r_X3_passDay_L4 {X : mm_Cl} (hX : mm_mono X) {d c k : Nat} {Q : mm_Re → Prop} : ∀ (n : Nat) (x0 : Nat) (x1 : Int32) (x2 : Int32) (h : mm_S) (o : (Int32 × mm_S)), F_X3_passDay_L4 n x0 x1 x2 h = some o → (mm_Ex (mm_Run X (d + 4)) 44 Q (51, [], [(0, .ref x0), (1, .int o.1)], o.2) c k) → mm_Ex (mm_Run X (d + 4)) 44 Q (4, [], [(0, .ref x0), (1, .int x1), (2, .int x2)], h) c k := by
  intro n
  induction n with
  | zero => intro x0 x1 x2 h o hF; cases hF
  | succ n ih =>
    intro x0 x1 x2 h o hF hE
    unfold F_X3_passDay_L4 at hF
    refine go_adv hX c_44 2 (F2 := (6, [.ref x0, .int x2], [(0, .ref x0), (1, .int x1), (2, .int x2)], h)) rfl ?_
    obtain ⟨v1, e2, hF⟩ := mm_bind hF
    refine go_gI hX c_44 rfl e2 ?_
    rcases mm_ite hF with ⟨hc3, hF⟩ | ⟨hc3, hF⟩
    · refine go_ct hX 51 c_44 rfl rfl hc3 ?_
      cases hF
      refine go_ls [(0, .ref x0), (1, .int x1)] ⟨rfl, ⟨rfl, trivial⟩⟩ ?_
      exact hE
    · refine go_cf hX c_44 rfl (by decide) hc3 ?_
      refine go_adv hX c_44 1 (F2 := (13, [.ref x0], [(0, .ref x0), (1, .int x1), (2, .int x2)], h)) rfl ?_
      obtain ⟨v4, e5, hF⟩ := mm_bind hF
      refine go_gR hX c_44 rfl e5 ?_
      refine go_adv hX c_44 1 (F2 := (17, [.int x2, .ref v4], [(0, .ref x0), (1, .int x1), (2, .int x2)], h)) rfl ?_
      obtain ⟨v6, e7, hF⟩ := mm_bind hF
      refine go_aR hX c_44 rfl e7 ?_
      refine go_adv hX c_44 4 (F2 := (23, [.ref v6, .int (kb 20), .ref v6], [(3, .ref v6), (0, .ref x0), (1, .int x1), (2, .int x2)], h)) rfl ?_
      obtain ⟨v8, e9, hF⟩ := mm_bind hF
      refine go_gI hX c_44 rfl e9 ?_
      refine go_adv hX c_44 1 (F2 := (27, [.ref v6, .int v8, .int (kb 20), .ref v6], [(3, .ref v6), (0, .ref x0), (1, .int x1), (2, .int x2)], h)) rfl ?_
      obtain ⟨_, e10, hF⟩ := mm_bind hF
      obtain ⟨v11, e12, hF⟩ := mm_bind hF
      refine go_cV hX (As := []) (rv := some (.int v11)) (h2 := h) (ci := 2) c_44 rfl (Nat.le_of_ble_eq_true rfl) rfl rfl e10 (by decide) (Nat.le_of_ble_eq_true rfl) (fun Q2 hQ2 => r_X2_dustPerDay hX (d := (d + 3)) e12 hQ2) ?_
      refine go_adv hX c_44 1 (F2 := (31, [.int (v8 + v11), .int (kb 20), .ref v6], [(3, .ref v6), (0, .ref x0), (1, .int x1), (2, .int x2)], h)) rfl ?_
      refine go_min hX c_44 rfl (Nat.le_of_ble_eq_true rfl) ?_
      obtain ⟨h13, e14, hF⟩ := mm_bind hF
      refine go_pV hX c_44 rfl e14 ?_
      refine go_adv hX c_44 3 (F2 := (40, [.ref v6, .ref x0, .int x1], [(3, .ref v6), (0, .ref x0), (1, .int x1), (2, .int x2)], h13)) rfl ?_
      obtain ⟨_, e15, hF⟩ := mm_bind hF
      obtain ⟨v16, e17, hF⟩ := mm_bind hF
      refine go_cV hX (As := [.ref v6]) (rv := some (.int v16.1)) (h2 := v16.2) (ci := 3) c_44 rfl (Nat.le_of_ble_eq_true rfl) rfl rfl e15 (by decide) (Nat.le_of_ble_eq_true rfl) (fun Q2 hQ2 => r_X3_giveRent hX (d := d) e17 hQ2) ?_
      refine go_adv hX c_44 3 (F2 := (48, [], [(2, .int (x2 + ki 1)), (1, .int (x1 + v16.1)), (3, .ref v6), (0, .ref x0)], v16.2)) rfl ?_
      refine go_to hX 4 c_44 rfl rfl ?_
      refine go_ls [(0, .ref x0), (1, .int (x1 + v16.1)), (2, .int (x2 + ki 1))] ⟨rfl, ⟨rfl, ⟨rfl, trivial⟩⟩⟩ ?_
      exact ih x0 (x1 + v16.1) (x2 + ki 1) v16.2 _ hF hE
theorem r_X3_passDay {X : mm_Cl} (hX : mm_mono X) {d c k : Nat} {Q : mm_Re → Prop} {h : mm_S} {x0 : Nat} {o : (Int32 × mm_S)} (hF : F_X3_passDay h x0 = some o) (hQ : Q (.inl (some (.int o.1)), o.2)) : mm_Run X (d + 5) 44 c k [.ref x0] h Q := by
  unfold F_X3_passDay at hF
  refine mm_Run_in (by decide) (by decide) (Nat.le_of_ble_eq_true rfl) ?_
  show mm_Ex (mm_Run X (d + 4)) 44 Q (0, [], [(0, .ref x0)], h) c k
  refine go_adv hX c_44 4 (F2 := (4, [], [(2, .int (ki 0)), (1, .int (ki 0)), (0, .ref x0)], h)) rfl ?_
  refine go_ls [(0, .ref x0), (1, .int (ki 0)), (2, .int (ki 0))] ⟨rfl, ⟨rfl, ⟨rfl, trivial⟩⟩⟩ ?_
  obtain ⟨o18, e19, hF⟩ := mm_bind hF
  refine r_X3_passDay_L4 hX 1000 x0 (ki 0) (ki 0) h o18 e19 ?_
  refine go_adv hX c_44 1 (F2 := (52, [.ref x0], [(0, .ref x0), (1, .int o18.1)], o18.2)) rfl ?_
  refine go_p hX c_44 rfl rfl rfl ?_
  obtain ⟨v20, e21, hF⟩ := mm_bind hF
  refine go_gI hX c_44 rfl e21 ?_
  refine go_adv hX c_44 2 (F2 := (58, [.int (v20 + (ki 1)), .ref x0], [(0, .ref x0), (1, .int o18.1)], o18.2)) rfl ?_
  obtain ⟨h22, e23, hF⟩ := mm_bind hF
  refine go_pV hX c_44 rfl e23 ?_
  refine go_adv hX c_44 3 (F2 := (64, [.ref x0, .int (ki 1), .ref x0], [(0, .ref x0), (1, .int o18.1)], h22)) rfl ?_
  obtain ⟨v24, e25, hF⟩ := mm_bind hF
  refine go_gI hX c_44 rfl e25 ?_
  refine go_adv hX c_44 1 (F2 := (68, [.int ((ki 1) - v24), .ref x0], [(0, .ref x0), (1, .int o18.1)], h22)) rfl ?_
  obtain ⟨h26, e27, hF⟩ := mm_bind hF
  refine go_pV hX c_44 rfl e27 ?_
  refine go_adv hX c_44 1 (F2 := (72, [.int o18.1], [(0, .ref x0), (1, .int o18.1)], h26)) rfl ?_
  cases hF
  exact go_iret hX c_44 rfl rfl rfl hQ
theorem c_10 : mm_cd 10 = k_X1_doOrder := rfl
def F_X1_doOrder (h : mm_S) (x0 : Nat) (x1 : Int32) (x2 : Nat) : Option (Int32 × mm_S) :=
  (fx_gR h x0 1 2).bind fun v1 =>
  (fx_aR h v1 x1).bind fun v3 =>
  (fx_gR h x0 1 1).bind fun v5 =>
  (fx_aI h v5 x1).bind fun v7 =>
  if v7 = nI 0 then
    (fx_aI h v3 (ki 0)).bind fun v10 =>
    (fx_aI h v3 (ki 1)).bind fun v12 =>
    (fx_aI h v3 (ki 2)).bind fun v14 =>
    (fx_is h x2 3).bind fun _ =>
    (F_X3_addStair h x2 v10 v12 v14).bind fun v17 =>
    some (v17.1, v17.2)
  else if v7 = nI 1 then
    (fx_aI h v3 (ki 0)).bind fun v20 =>
    (fx_is h x2 3).bind fun _ =>
    (F_X3_removeStair h x2 v20).bind fun v23 =>
    some (v23.1, v23.2)
  else if v7 = nI 2 then
    (fx_aI h v3 (ki 0)).bind fun v26 =>
    (fx_is h x2 3).bind fun _ =>
    (F_X3_halveSteps h x2 v26).bind fun v29 =>
    some (v29.1, v29.2)
  else if v7 = nI 3 then
    (fx_aI h v3 (ki 0)).bind fun v32 =>
    (fx_aI h v3 (ki 1)).bind fun v34 =>
    (fx_aI h v3 (ki 2)).bind fun v36 =>
    (fx_is h x2 3).bind fun _ =>
    (F_X3_leaseTo h x2 v32 v34 v36).bind fun v39 =>
    some (v39.1, v39.2)
  else if v7 = nI 4 then
    (fx_aI h v3 (ki 0)).bind fun v42 =>
    (fx_aI h v3 (ki 1)).bind fun v44 =>
    (fx_is h x2 3).bind fun _ =>
    (F_X3_goOver h x2 v42 v44).bind fun v47 =>
    some (v47.1, v47.2)
  else if v7 = nI 5 then
    (fx_aI h v3 (ki 0)).bind fun v50 =>
    (fx_aI h v3 (ki 1)).bind fun v52 =>
    (fx_is h x2 3).bind fun _ =>
    (F_X3_levyDust h x2 v50 v52).bind fun v55 =>
    some (v55.1, v55.2)
  else if v7 = nI 6 then
    (fx_aI h v3 (ki 0)).bind fun v58 =>
    (fx_is h x2 3).bind fun _ =>
    (F_X3_takeLanding h x2 v58).bind fun v61 =>
    some (v61.1, v61.2)
  else if v7 = nI 7 then
    (fx_aI h v3 (ki 0)).bind fun v64 =>
    (fx_aI h v3 (ki 1)).bind fun v66 =>
    (fx_is h x2 3).bind fun _ =>
    (F_X3_freeLanding h x2 v64 v66).bind fun v69 =>
    some (v69.1, v69.2)
  else
    (fx_is h x2 3).bind fun _ =>
    (F_X3_passDay h x2).bind fun v72 =>
    some (v72.1, v72.2)
theorem r_X1_doOrder {X : mm_Cl} (hX : mm_mono X) {d c k : Nat} {Q : mm_Re → Prop} {h : mm_S} {x0 : Nat} {x1 : Int32} {x2 : Nat} {o : (Int32 × mm_S)} (hF : F_X1_doOrder h x0 x1 x2 = some o) (hQ : Q (.inl (some (.int o.1)), o.2)) : mm_Run X (d + 6) 10 c k [.ref x0, .int x1, .ref x2] h Q := by
  unfold F_X1_doOrder at hF
  refine mm_Run_in (by decide) (by decide) (Nat.le_of_ble_eq_true rfl) ?_
  show mm_Ex (mm_Run X (d + 5)) 10 Q (0, [], [(0, .ref x0), (1, .int x1), (2, .ref x2)], h) c k
  refine go_adv hX c_10 1 (F2 := (1, [.ref x0], [(0, .ref x0), (1, .int x1), (2, .ref x2)], h)) rfl ?_
  obtain ⟨v1, e2, hF⟩ := mm_bind hF
  refine go_gR hX c_10 rfl e2 ?_
  refine go_adv hX c_10 1 (F2 := (5, [.int x1, .ref v1], [(0, .ref x0), (1, .int x1), (2, .ref x2)], h)) rfl ?_
  obtain ⟨v3, e4, hF⟩ := mm_bind hF
  refine go_aR hX c_10 rfl e4 ?_
  refine go_adv hX c_10 2 (F2 := (8, [.ref x0], [(3, .ref v3), (0, .ref x0), (1, .int x1), (2, .ref x2)], h)) rfl ?_
  obtain ⟨v5, e6, hF⟩ := mm_bind hF
  refine go_gR hX c_10 rfl e6 ?_
  refine go_adv hX c_10 1 (F2 := (12, [.int x1, .ref v5], [(3, .ref v3), (0, .ref x0), (1, .int x1), (2, .ref x2)], h)) rfl ?_
  obtain ⟨v7, e8, hF⟩ := mm_bind hF
  refine go_aI hX c_10 rfl e8 ?_
  rcases mm_ite hF with ⟨hc9, hF⟩ | ⟨hc9, hF⟩
  · refine go_sw hX 60 c_10 rfl hc9 (by decide) (by decide +kernel) ?_
    refine go_adv hX c_10 3 (F2 := (63, [.int (ki 0), .ref v3, .ref x2], [(3, .ref v3), (0, .ref x0), (1, .int x1), (2, .ref x2)], h)) rfl ?_
    obtain ⟨v10, e11, hF⟩ := mm_bind hF
    refine go_aI hX c_10 rfl e11 ?_
    refine go_adv hX c_10 2 (F2 := (66, [.int (ki 1), .ref v3, .int v10, .ref x2], [(3, .ref v3), (0, .ref x0), (1, .int x1), (2, .ref x2)], h)) rfl ?_
    obtain ⟨v12, e13, hF⟩ := mm_bind hF
    refine go_aI hX c_10 rfl e13 ?_
    refine go_adv hX c_10 2 (F2 := (69, [.int (ki 2), .ref v3, .int v12, .int v10, .ref x2], [(3, .ref v3), (0, .ref x0), (1, .int x1), (2, .ref x2)], h)) rfl ?_
    obtain ⟨v14, e15, hF⟩ := mm_bind hF
    refine go_aI hX c_10 rfl e15 ?_
    obtain ⟨_, e16, hF⟩ := mm_bind hF
    obtain ⟨v17, e18, hF⟩ := mm_bind hF
    refine go_cV hX (As := [.int v10, .int v12, .int v14]) (rv := some (.int v17.1)) (h2 := v17.2) (ci := 3) c_10 rfl (Nat.le_of_ble_eq_true rfl) rfl rfl e16 (by decide) (Nat.le_of_ble_eq_true rfl) (fun Q2 hQ2 => r_X3_addStair hX (d := (d + 2)) e18 hQ2) ?_
    cases hF
    exact go_iret hX c_10 rfl rfl rfl hQ
  rcases mm_ite hF with ⟨hc19, hF⟩ | ⟨hc19, hF⟩
  · refine go_sw hX 74 c_10 rfl hc19 (by decide) (by decide +kernel) ?_
    refine go_adv hX c_10 3 (F2 := (77, [.int (ki 0), .ref v3, .ref x2], [(3, .ref v3), (0, .ref x0), (1, .int x1), (2, .ref x2)], h)) rfl ?_
    obtain ⟨v20, e21, hF⟩ := mm_bind hF
    refine go_aI hX c_10 rfl e21 ?_
    obtain ⟨_, e22, hF⟩ := mm_bind hF
    obtain ⟨v23, e24, hF⟩ := mm_bind hF
    refine go_cV hX (As := [.int v20]) (rv := some (.int v23.1)) (h2 := v23.2) (ci := 3) c_10 rfl (Nat.le_of_ble_eq_true rfl) rfl rfl e22 (by decide) (Nat.le_of_ble_eq_true rfl) (fun Q2 hQ2 => r_X3_removeStair hX (d := (d + 4)) e24 hQ2) ?_
    cases hF
    exact go_iret hX c_10 rfl rfl rfl hQ
  rcases mm_ite hF with ⟨hc25, hF⟩ | ⟨hc25, hF⟩
  · refine go_sw hX 82 c_10 rfl hc25 (by decide) (by decide +kernel) ?_
    refine go_adv hX c_10 3 (F2 := (85, [.int (ki 0), .ref v3, .ref x2], [(3, .ref v3), (0, .ref x0), (1, .int x1), (2, .ref x2)], h)) rfl ?_
    obtain ⟨v26, e27, hF⟩ := mm_bind hF
    refine go_aI hX c_10 rfl e27 ?_
    obtain ⟨_, e28, hF⟩ := mm_bind hF
    obtain ⟨v29, e30, hF⟩ := mm_bind hF
    refine go_cV hX (As := [.int v26]) (rv := some (.int v29.1)) (h2 := v29.2) (ci := 3) c_10 rfl (Nat.le_of_ble_eq_true rfl) rfl rfl e28 (by decide) (Nat.le_of_ble_eq_true rfl) (fun Q2 hQ2 => r_X3_halveSteps hX (d := (d + 4)) e30 hQ2) ?_
    cases hF
    exact go_iret hX c_10 rfl rfl rfl hQ
  rcases mm_ite hF with ⟨hc31, hF⟩ | ⟨hc31, hF⟩
  · refine go_sw hX 90 c_10 rfl hc31 (by decide) (by decide +kernel) ?_
    refine go_adv hX c_10 3 (F2 := (93, [.int (ki 0), .ref v3, .ref x2], [(3, .ref v3), (0, .ref x0), (1, .int x1), (2, .ref x2)], h)) rfl ?_
    obtain ⟨v32, e33, hF⟩ := mm_bind hF
    refine go_aI hX c_10 rfl e33 ?_
    refine go_adv hX c_10 2 (F2 := (96, [.int (ki 1), .ref v3, .int v32, .ref x2], [(3, .ref v3), (0, .ref x0), (1, .int x1), (2, .ref x2)], h)) rfl ?_
    obtain ⟨v34, e35, hF⟩ := mm_bind hF
    refine go_aI hX c_10 rfl e35 ?_
    refine go_adv hX c_10 2 (F2 := (99, [.int (ki 2), .ref v3, .int v34, .int v32, .ref x2], [(3, .ref v3), (0, .ref x0), (1, .int x1), (2, .ref x2)], h)) rfl ?_
    obtain ⟨v36, e37, hF⟩ := mm_bind hF
    refine go_aI hX c_10 rfl e37 ?_
    obtain ⟨_, e38, hF⟩ := mm_bind hF
    obtain ⟨v39, e40, hF⟩ := mm_bind hF
    refine go_cV hX (As := [.int v32, .int v34, .int v36]) (rv := some (.int v39.1)) (h2 := v39.2) (ci := 3) c_10 rfl (Nat.le_of_ble_eq_true rfl) rfl rfl e38 (by decide) (Nat.le_of_ble_eq_true rfl) (fun Q2 hQ2 => r_X3_leaseTo hX (d := (d + 3)) e40 hQ2) ?_
    cases hF
    exact go_iret hX c_10 rfl rfl rfl hQ
  rcases mm_ite hF with ⟨hc41, hF⟩ | ⟨hc41, hF⟩
  · refine go_sw hX 104 c_10 rfl hc41 (by decide) (by decide +kernel) ?_
    refine go_adv hX c_10 3 (F2 := (107, [.int (ki 0), .ref v3, .ref x2], [(3, .ref v3), (0, .ref x0), (1, .int x1), (2, .ref x2)], h)) rfl ?_
    obtain ⟨v42, e43, hF⟩ := mm_bind hF
    refine go_aI hX c_10 rfl e43 ?_
    refine go_adv hX c_10 2 (F2 := (110, [.int (ki 1), .ref v3, .int v42, .ref x2], [(3, .ref v3), (0, .ref x0), (1, .int x1), (2, .ref x2)], h)) rfl ?_
    obtain ⟨v44, e45, hF⟩ := mm_bind hF
    refine go_aI hX c_10 rfl e45 ?_
    obtain ⟨_, e46, hF⟩ := mm_bind hF
    obtain ⟨v47, e48, hF⟩ := mm_bind hF
    refine go_cV hX (As := [.int v42, .int v44]) (rv := some (.int v47.1)) (h2 := v47.2) (ci := 3) c_10 rfl (Nat.le_of_ble_eq_true rfl) rfl rfl e46 (by decide) (Nat.le_of_ble_eq_true rfl) (fun Q2 hQ2 => r_X3_goOver hX (d := (d + 3)) e48 hQ2) ?_
    cases hF
    exact go_iret hX c_10 rfl rfl rfl hQ
  rcases mm_ite hF with ⟨hc49, hF⟩ | ⟨hc49, hF⟩
  · refine go_sw hX 115 c_10 rfl hc49 (by decide) (by decide +kernel) ?_
    refine go_adv hX c_10 3 (F2 := (118, [.int (ki 0), .ref v3, .ref x2], [(3, .ref v3), (0, .ref x0), (1, .int x1), (2, .ref x2)], h)) rfl ?_
    obtain ⟨v50, e51, hF⟩ := mm_bind hF
    refine go_aI hX c_10 rfl e51 ?_
    refine go_adv hX c_10 2 (F2 := (121, [.int (ki 1), .ref v3, .int v50, .ref x2], [(3, .ref v3), (0, .ref x0), (1, .int x1), (2, .ref x2)], h)) rfl ?_
    obtain ⟨v52, e53, hF⟩ := mm_bind hF
    refine go_aI hX c_10 rfl e53 ?_
    obtain ⟨_, e54, hF⟩ := mm_bind hF
    obtain ⟨v55, e56, hF⟩ := mm_bind hF
    refine go_cV hX (As := [.int v50, .int v52]) (rv := some (.int v55.1)) (h2 := v55.2) (ci := 3) c_10 rfl (Nat.le_of_ble_eq_true rfl) rfl rfl e54 (by decide) (Nat.le_of_ble_eq_true rfl) (fun Q2 hQ2 => r_X3_levyDust hX (d := (d + 3)) e56 hQ2) ?_
    cases hF
    exact go_iret hX c_10 rfl rfl rfl hQ
  rcases mm_ite hF with ⟨hc57, hF⟩ | ⟨hc57, hF⟩
  · refine go_sw hX 126 c_10 rfl hc57 (by decide) (by decide +kernel) ?_
    refine go_adv hX c_10 3 (F2 := (129, [.int (ki 0), .ref v3, .ref x2], [(3, .ref v3), (0, .ref x0), (1, .int x1), (2, .ref x2)], h)) rfl ?_
    obtain ⟨v58, e59, hF⟩ := mm_bind hF
    refine go_aI hX c_10 rfl e59 ?_
    obtain ⟨_, e60, hF⟩ := mm_bind hF
    obtain ⟨v61, e62, hF⟩ := mm_bind hF
    refine go_cV hX (As := [.int v58]) (rv := some (.int v61.1)) (h2 := v61.2) (ci := 3) c_10 rfl (Nat.le_of_ble_eq_true rfl) rfl rfl e60 (by decide) (Nat.le_of_ble_eq_true rfl) (fun Q2 hQ2 => r_X3_takeLanding hX (d := (d + 3)) e62 hQ2) ?_
    cases hF
    exact go_iret hX c_10 rfl rfl rfl hQ
  rcases mm_ite hF with ⟨hc63, hF⟩ | ⟨hc63, hF⟩
  · refine go_sw hX 134 c_10 rfl hc63 (by decide) (by decide +kernel) ?_
    refine go_adv hX c_10 3 (F2 := (137, [.int (ki 0), .ref v3, .ref x2], [(3, .ref v3), (0, .ref x0), (1, .int x1), (2, .ref x2)], h)) rfl ?_
    obtain ⟨v64, e65, hF⟩ := mm_bind hF
    refine go_aI hX c_10 rfl e65 ?_
    refine go_adv hX c_10 2 (F2 := (140, [.int (ki 1), .ref v3, .int v64, .ref x2], [(3, .ref v3), (0, .ref x0), (1, .int x1), (2, .ref x2)], h)) rfl ?_
    obtain ⟨v66, e67, hF⟩ := mm_bind hF
    refine go_aI hX c_10 rfl e67 ?_
    obtain ⟨_, e68, hF⟩ := mm_bind hF
    obtain ⟨v69, e70, hF⟩ := mm_bind hF
    refine go_cV hX (As := [.int v64, .int v66]) (rv := some (.int v69.1)) (h2 := v69.2) (ci := 3) c_10 rfl (Nat.le_of_ble_eq_true rfl) rfl rfl e68 (by decide) (Nat.le_of_ble_eq_true rfl) (fun Q2 hQ2 => r_X3_freeLanding hX (d := (d + 3)) e70 hQ2) ?_
    cases hF
    exact go_iret hX c_10 rfl rfl rfl hQ
  refine go_swd hX 8 145 c_10 rfl (by decide) rfl (by decide) (fun i hi => match i, hi with | 0, _ => hc9 | 1, _ => hc19 | 2, _ => hc25 | 3, _ => hc31 | 4, _ => hc41 | 5, _ => hc49 | 6, _ => hc57 | 7, _ => hc63 | j + 8, hj => absurd hj (by omega)) (by decide) ?_
  refine go_adv hX c_10 1 (F2 := (146, [.ref x2], [(3, .ref v3), (0, .ref x0), (1, .int x1), (2, .ref x2)], h)) rfl ?_
  obtain ⟨_, e71, hF⟩ := mm_bind hF
  obtain ⟨v72, e73, hF⟩ := mm_bind hF
  refine go_cV hX (As := []) (rv := some (.int v72.1)) (h2 := v72.2) (ci := 3) c_10 rfl (Nat.le_of_ble_eq_true rfl) rfl rfl e71 (by decide) (Nat.le_of_ble_eq_true rfl) (fun Q2 hQ2 => r_X3_passDay hX (d := d) e73 hQ2) ?_
  cases hF
  exact go_iret hX c_10 rfl rfl rfl hQ
theorem c_12 : mm_cd 12 = k_X2_copyFrom := rfl
def F_X2_copyFrom (h : mm_S) (x0 : Nat) (x1 : Nat) : Option mm_S :=
  (fx_gI h x1 2 0).bind fun v1 =>
  (fx_pV h x0 2 0 (.int v1)).bind fun h3 =>
  (fx_gI h3 x1 2 1).bind fun v5 =>
  (fx_pV h3 x0 2 1 (.int v5)).bind fun h7 =>
  (fx_gI h7 x1 2 2).bind fun v9 =>
  (fx_pV h7 x0 2 2 (.int v9)).bind fun h11 =>
  (fx_gI h11 x1 2 3).bind fun v13 =>
  (fx_pV h11 x0 2 3 (.int v13)).bind fun h15 =>
  (fx_gI h15 x1 2 4).bind fun v17 =>
  (fx_pV h15 x0 2 4 (.int v17)).bind fun h19 =>
  (fx_gI h19 x1 2 5).bind fun v21 =>
  (fx_pV h19 x0 2 5 (.int v21)).bind fun h23 =>
  (fx_gI h23 x1 2 6).bind fun v25 =>
  (fx_pV h23 x0 2 6 (.int v25)).bind fun h27 =>
  some h27
theorem r_X2_copyFrom {X : mm_Cl} (hX : mm_mono X) {d c k : Nat} {Q : mm_Re → Prop} {h : mm_S} {x0 : Nat} {x1 : Nat} {o : mm_S} (hF : F_X2_copyFrom h x0 x1 = some o) (hQ : Q (.inl none, o)) : mm_Run X (d + 1) 12 c k [.ref x0, .ref x1] h Q := by
  unfold F_X2_copyFrom at hF
  refine mm_Run_in (by decide) (by decide) (Nat.le_of_ble_eq_true rfl) ?_
  show mm_Ex (mm_Run X d) 12 Q (0, [], [(0, .ref x0), (1, .ref x1)], h) c k
  refine go_adv hX c_12 2 (F2 := (2, [.ref x1, .ref x0], [(0, .ref x0), (1, .ref x1)], h)) rfl ?_
  obtain ⟨v1, e2, hF⟩ := mm_bind hF
  refine go_gI hX c_12 rfl e2 ?_
  obtain ⟨h3, e4, hF⟩ := mm_bind hF
  refine go_pV hX c_12 rfl e4 ?_
  refine go_adv hX c_12 2 (F2 := (10, [.ref x1, .ref x0], [(0, .ref x0), (1, .ref x1)], h3)) rfl ?_
  obtain ⟨v5, e6, hF⟩ := mm_bind hF
  refine go_gI hX c_12 rfl e6 ?_
  obtain ⟨h7, e8, hF⟩ := mm_bind hF
  refine go_pV hX c_12 rfl e8 ?_
  refine go_adv hX c_12 2 (F2 := (18, [.ref x1, .ref x0], [(0, .ref x0), (1, .ref x1)], h7)) rfl ?_
  obtain ⟨v9, e10, hF⟩ := mm_bind hF
  refine go_gI hX c_12 rfl e10 ?_
  obtain ⟨h11, e12, hF⟩ := mm_bind hF
  refine go_pV hX c_12 rfl e12 ?_
  refine go_adv hX c_12 2 (F2 := (26, [.ref x1, .ref x0], [(0, .ref x0), (1, .ref x1)], h11)) rfl ?_
  obtain ⟨v13, e14, hF⟩ := mm_bind hF
  refine go_gI hX c_12 rfl e14 ?_
  obtain ⟨h15, e16, hF⟩ := mm_bind hF
  refine go_pV hX c_12 rfl e16 ?_
  refine go_adv hX c_12 2 (F2 := (34, [.ref x1, .ref x0], [(0, .ref x0), (1, .ref x1)], h15)) rfl ?_
  obtain ⟨v17, e18, hF⟩ := mm_bind hF
  refine go_gI hX c_12 rfl e18 ?_
  obtain ⟨h19, e20, hF⟩ := mm_bind hF
  refine go_pV hX c_12 rfl e20 ?_
  refine go_adv hX c_12 2 (F2 := (42, [.ref x1, .ref x0], [(0, .ref x0), (1, .ref x1)], h19)) rfl ?_
  obtain ⟨v21, e22, hF⟩ := mm_bind hF
  refine go_gI hX c_12 rfl e22 ?_
  obtain ⟨h23, e24, hF⟩ := mm_bind hF
  refine go_pV hX c_12 rfl e24 ?_
  refine go_adv hX c_12 2 (F2 := (50, [.ref x1, .ref x0], [(0, .ref x0), (1, .ref x1)], h23)) rfl ?_
  obtain ⟨v25, e26, hF⟩ := mm_bind hF
  refine go_gI hX c_12 rfl e26 ?_
  obtain ⟨h27, e28, hF⟩ := mm_bind hF
  refine go_pV hX c_12 rfl e28 ?_
  cases hF
  exact go_ret hX c_12 rfl rfl hQ
theorem c_21 : mm_cd 21 = k_X2_keyOf := rfl
def F_X2_keyOf (h : mm_S) (x0 : Nat) (x1 : Int32) : Option Int32 :=
  if x1 = nI 0 then
    (fx_gI h x0 2 2).bind fun v2 =>
    some v2
  else if x1 = nI 1 then
    (fx_gI h x0 2 3).bind fun v5 =>
    some v5
  else if x1 = nI 2 then
    (fx_gI h x0 2 6).bind fun v8 =>
    some v8
  else
    (fx_is h x0 2).bind fun _ =>
    (F_X2_rent h x0).bind fun v11 =>
    some v11
theorem r_X2_keyOf {X : mm_Cl} (hX : mm_mono X) {d c k : Nat} {Q : mm_Re → Prop} {h : mm_S} {x0 : Nat} {x1 : Int32} {o : Int32} (hF : F_X2_keyOf h x0 x1 = some o) (hQ : Q (.inl (some (.int o)), h)) : mm_Run X (d + 2) 21 c k [.ref x0, .int x1] h Q := by
  unfold F_X2_keyOf at hF
  refine mm_Run_in (by decide) (by decide) (Nat.le_of_ble_eq_true rfl) ?_
  show mm_Ex (mm_Run X (d + 1)) 21 Q (0, [], [(0, .ref x0), (1, .int x1)], h) c k
  refine go_adv hX c_21 1 (F2 := (1, [.int x1], [(0, .ref x0), (1, .int x1)], h)) rfl ?_
  rcases mm_ite hF with ⟨hc1, hF⟩ | ⟨hc1, hF⟩
  · refine go_sw hX 28 c_21 rfl hc1 (by decide) (by decide +kernel) ?_
    refine go_adv hX c_21 1 (F2 := (29, [.ref x0], [(0, .ref x0), (1, .int x1)], h)) rfl ?_
    obtain ⟨v2, e3, hF⟩ := mm_bind hF
    refine go_gI hX c_21 rfl e3 ?_
    cases hF
    exact go_iret hX c_21 rfl rfl rfl hQ
  rcases mm_ite hF with ⟨hc4, hF⟩ | ⟨hc4, hF⟩
  · refine go_sw hX 33 c_21 rfl hc4 (by decide) (by decide +kernel) ?_
    refine go_adv hX c_21 1 (F2 := (34, [.ref x0], [(0, .ref x0), (1, .int x1)], h)) rfl ?_
    obtain ⟨v5, e6, hF⟩ := mm_bind hF
    refine go_gI hX c_21 rfl e6 ?_
    cases hF
    exact go_iret hX c_21 rfl rfl rfl hQ
  rcases mm_ite hF with ⟨hc7, hF⟩ | ⟨hc7, hF⟩
  · refine go_sw hX 38 c_21 rfl hc7 (by decide) (by decide +kernel) ?_
    refine go_adv hX c_21 1 (F2 := (39, [.ref x0], [(0, .ref x0), (1, .int x1)], h)) rfl ?_
    obtain ⟨v8, e9, hF⟩ := mm_bind hF
    refine go_gI hX c_21 rfl e9 ?_
    cases hF
    exact go_iret hX c_21 rfl rfl rfl hQ
  refine go_swd hX 3 43 c_21 rfl (by decide) rfl (by decide) (fun i hi => match i, hi with | 0, _ => hc1 | 1, _ => hc4 | 2, _ => hc7 | j + 3, hj => absurd hj (by omega)) (by decide) ?_
  refine go_adv hX c_21 1 (F2 := (44, [.ref x0], [(0, .ref x0), (1, .int x1)], h)) rfl ?_
  obtain ⟨_, e10, hF⟩ := mm_bind hF
  obtain ⟨v11, e12, hF⟩ := mm_bind hF
  refine go_cV hX (As := []) (rv := some (.int v11)) (h2 := h) (ci := 2) c_21 rfl (Nat.le_of_ble_eq_true rfl) rfl rfl e10 (by decide) (Nat.le_of_ble_eq_true rfl) (fun Q2 hQ2 => r_X2_rent hX (d := d) e12 hQ2) ?_
  cases hF
  exact go_iret hX c_21 rfl rfl rfl hQ
theorem c_23 : mm_cd 23 = k_X3_copyFrom := rfl
def F_X3_copyFrom_L2 : Nat → Nat → Nat → Int32 → mm_S → Option mm_S
  | 0, _, _, _, _ => none
  | n + 1, x0, x1, x2, h =>
    if (ki 2) ≤ x2 then
      some h
    else
      (fx_gR h x0 3 0).bind fun v2 =>
      (fx_aR h v2 x2).bind fun v4 =>
      (fx_gR h x1 3 0).bind fun v6 =>
      (fx_aR h v6 x2).bind fun v8 =>
      (fx_is h v4 0).bind fun _ =>
      (F_X0_copyFrom h v4 v8).bind fun v11 =>
      F_X3_copyFrom_L2 n x0 x1 (x2 + ki 1) v11
def F_X3_copyFrom_L45 : Nat → Nat → Nat → Int32 → mm_S → Option mm_S
  | 0, _, _, _, _ => none
  | n + 1, x0, x1, x2, h =>
    if (kb 10) ≤ x2 then
      some h
    else
      (fx_gR h x0 3 2).bind fun v22 =>
      (fx_aR h v22 x2).bind fun v24 =>
      (fx_gR h x1 3 2).bind fun v26 =>
      (fx_aR h v26 x2).bind fun v28 =>
      (fx_is h v24 2).bind fun _ =>
      (F_X2_copyFrom h v24 v28).bind fun v31 =>
      F_X3_copyFrom_L45 n x0 x1 (x2 + ki 1) v31
def F_X3_copyFrom (h : mm_S) (x0 : Nat) (x1 : Nat) : Option mm_S :=
  (F_X3_copyFrom_L2 1000 x0 x1 (ki 0) h).bind fun o13 =>
  (fx_gR o13 x1 3 1).bind fun v15 =>
  (fx_gR o13 x0 3 1).bind fun v17 =>
  (fx_cp o13 v15 (ki 0) v17 (ki 0) (kb 8)).bind fun h19 =>
  (F_X3_copyFrom_L45 1000 x0 x1 (ki 0) h19).bind fun o33 =>
  (fx_gI o33 x1 3 3).bind fun v35 =>
  (fx_pV o33 x0 3 3 (.int v35)).bind fun h37 =>
  (fx_gI h37 x1 3 4).bind fun v39 =>
  (fx_pV h37 x0 3 4 (.int v39)).bind fun h41 =>
  (fx_gI h41 x1 3 5).bind fun v43 =>
  (fx_pV h41 x0 3 5 (.int v43)).bind fun h45 =>
  (fx_gI h45 x1 3 6).bind fun v47 =>
  (fx_pV h45 x0 3 6 (.int v47)).bind fun h49 =>
  (fx_gI h49 x1 3 7).bind fun v51 =>
  (fx_pV h49 x0 3 7 (.int v51)).bind fun h53 =>
  (fx_gI h53 x1 3 8).bind fun v55 =>
  (fx_pV h53 x0 3 8 (.int v55)).bind fun h57 =>
  (fx_gI h57 x1 3 9).bind fun v59 =>
  (fx_pV h57 x0 3 9 (.int v59)).bind fun h61 =>
  some h61
theorem r_X3_copyFrom_L2 {X : mm_Cl} (hX : mm_mono X) {d c k : Nat} {Q : mm_Re → Prop} : ∀ (n : Nat) (x0 : Nat) (x1 : Nat) (x2 : Int32) (h : mm_S) (o : mm_S), F_X3_copyFrom_L2 n x0 x1 x2 h = some o → (mm_Ex (mm_Run X (d + 1)) 23 Q (28, [], [(0, .ref x0), (1, .ref x1)], o) c k) → mm_Ex (mm_Run X (d + 1)) 23 Q (2, [], [(0, .ref x0), (1, .ref x1), (2, .int x2)], h) c k := by
  intro n
  induction n with
  | zero => intro x0 x1 x2 h o hF; cases hF
  | succ n ih =>
    intro x0 x1 x2 h o hF hE
    unfold F_X3_copyFrom_L2 at hF
    refine go_adv hX c_23 2 (F2 := (4, [.int (ki 2), .int x2], [(0, .ref x0), (1, .ref x1), (2, .int x2)], h)) rfl ?_
    rcases mm_ite hF with ⟨hc1, hF⟩ | ⟨hc1, hF⟩
    · refine go_ct hX 28 c_23 rfl rfl hc1 ?_
      cases hF
      refine go_ls [(0, .ref x0), (1, .ref x1)] ⟨rfl, ⟨rfl, trivial⟩⟩ ?_
      exact hE
    · refine go_cf hX c_23 rfl (by decide) hc1 ?_
      refine go_adv hX c_23 1 (F2 := (8, [.ref x0], [(0, .ref x0), (1, .ref x1), (2, .int x2)], h)) rfl ?_
      obtain ⟨v2, e3, hF⟩ := mm_bind hF
      refine go_gR hX c_23 rfl e3 ?_
      refine go_adv hX c_23 1 (F2 := (12, [.int x2, .ref v2], [(0, .ref x0), (1, .ref x1), (2, .int x2)], h)) rfl ?_
      obtain ⟨v4, e5, hF⟩ := mm_bind hF
      refine go_aR hX c_23 rfl e5 ?_
      refine go_adv hX c_23 1 (F2 := (14, [.ref x1, .ref v4], [(0, .ref x0), (1, .ref x1), (2, .int x2)], h)) rfl ?_
      obtain ⟨v6, e7, hF⟩ := mm_bind hF
      refine go_gR hX c_23 rfl e7 ?_
      refine go_adv hX c_23 1 (F2 := (18, [.int x2, .ref v6, .ref v4], [(0, .ref x0), (1, .ref x1), (2, .int x2)], h)) rfl ?_
      obtain ⟨v8, e9, hF⟩ := mm_bind hF
      refine go_aR hX c_23 rfl e9 ?_
      obtain ⟨_, e10, hF⟩ := mm_bind hF
      obtain ⟨v11, e12, hF⟩ := mm_bind hF
      refine go_cV hX (As := [.ref v8]) (rv := none) (h2 := v11) (ci := 0) c_23 rfl (Nat.le_of_ble_eq_true rfl) rfl rfl e10 (by decide) (Nat.le_of_ble_eq_true rfl) (fun Q2 hQ2 => r_X0_copyFrom hX (d := d) e12 hQ2) ?_
      refine go_adv hX c_23 1 (F2 := (25, [], [(2, .int (x2 + ki 1)), (0, .ref x0), (1, .ref x1)], v11)) rfl ?_
      refine go_to hX 2 c_23 rfl rfl ?_
      refine go_ls [(0, .ref x0), (1, .ref x1), (2, .int (x2 + ki 1))] ⟨rfl, ⟨rfl, ⟨rfl, trivial⟩⟩⟩ ?_
      exact ih x0 x1 (x2 + ki 1) v11 _ hF hE
theorem r_X3_copyFrom_L45 {X : mm_Cl} (hX : mm_mono X) {d c k : Nat} {Q : mm_Re → Prop} : ∀ (n : Nat) (x0 : Nat) (x1 : Nat) (x2 : Int32) (h : mm_S) (o : mm_S), F_X3_copyFrom_L45 n x0 x1 x2 h = some o → (mm_Ex (mm_Run X (d + 1)) 23 Q (72, [], [(0, .ref x0), (1, .ref x1)], o) c k) → mm_Ex (mm_Run X (d + 1)) 23 Q (45, [], [(0, .ref x0), (1, .ref x1), (2, .int x2)], h) c k := by
  intro n
  induction n with
  | zero => intro x0 x1 x2 h o hF; cases hF
  | succ n ih =>
    intro x0 x1 x2 h o hF hE
    unfold F_X3_copyFrom_L45 at hF
    refine go_adv hX c_23 2 (F2 := (48, [.int (kb 10), .int x2], [(0, .ref x0), (1, .ref x1), (2, .int x2)], h)) rfl ?_
    rcases mm_ite hF with ⟨hc21, hF⟩ | ⟨hc21, hF⟩
    · refine go_ct hX 72 c_23 rfl rfl hc21 ?_
      cases hF
      refine go_ls [(0, .ref x0), (1, .ref x1)] ⟨rfl, ⟨rfl, trivial⟩⟩ ?_
      exact hE
    · refine go_cf hX c_23 rfl (by decide) hc21 ?_
      refine go_adv hX c_23 1 (F2 := (52, [.ref x0], [(0, .ref x0), (1, .ref x1), (2, .int x2)], h)) rfl ?_
      obtain ⟨v22, e23, hF⟩ := mm_bind hF
      refine go_gR hX c_23 rfl e23 ?_
      refine go_adv hX c_23 1 (F2 := (56, [.int x2, .ref v22], [(0, .ref x0), (1, .ref x1), (2, .int x2)], h)) rfl ?_
      obtain ⟨v24, e25, hF⟩ := mm_bind hF
      refine go_aR hX c_23 rfl e25 ?_
      refine go_adv hX c_23 1 (F2 := (58, [.ref x1, .ref v24], [(0, .ref x0), (1, .ref x1), (2, .int x2)], h)) rfl ?_
      obtain ⟨v26, e27, hF⟩ := mm_bind hF
      refine go_gR hX c_23 rfl e27 ?_
      refine go_adv hX c_23 1 (F2 := (62, [.int x2, .ref v26, .ref v24], [(0, .ref x0), (1, .ref x1), (2, .int x2)], h)) rfl ?_
      obtain ⟨v28, e29, hF⟩ := mm_bind hF
      refine go_aR hX c_23 rfl e29 ?_
      obtain ⟨_, e30, hF⟩ := mm_bind hF
      obtain ⟨v31, e32, hF⟩ := mm_bind hF
      refine go_cV hX (As := [.ref v28]) (rv := none) (h2 := v31) (ci := 2) c_23 rfl (Nat.le_of_ble_eq_true rfl) rfl rfl e30 (by decide) (Nat.le_of_ble_eq_true rfl) (fun Q2 hQ2 => r_X2_copyFrom hX (d := d) e32 hQ2) ?_
      refine go_adv hX c_23 1 (F2 := (69, [], [(2, .int (x2 + ki 1)), (0, .ref x0), (1, .ref x1)], v31)) rfl ?_
      refine go_to hX 45 c_23 rfl rfl ?_
      refine go_ls [(0, .ref x0), (1, .ref x1), (2, .int (x2 + ki 1))] ⟨rfl, ⟨rfl, ⟨rfl, trivial⟩⟩⟩ ?_
      exact ih x0 x1 (x2 + ki 1) v31 _ hF hE
theorem r_X3_copyFrom {X : mm_Cl} (hX : mm_mono X) {d c k : Nat} {Q : mm_Re → Prop} {h : mm_S} {x0 : Nat} {x1 : Nat} {o : mm_S} (hF : F_X3_copyFrom h x0 x1 = some o) (hQ : Q (.inl none, o)) : mm_Run X (d + 2) 23 c k [.ref x0, .ref x1] h Q := by
  unfold F_X3_copyFrom at hF
  refine mm_Run_in (by decide) (by decide) (Nat.le_of_ble_eq_true rfl) ?_
  show mm_Ex (mm_Run X (d + 1)) 23 Q (0, [], [(0, .ref x0), (1, .ref x1)], h) c k
  refine go_adv hX c_23 2 (F2 := (2, [], [(2, .int (ki 0)), (0, .ref x0), (1, .ref x1)], h)) rfl ?_
  refine go_ls [(0, .ref x0), (1, .ref x1), (2, .int (ki 0))] ⟨rfl, ⟨rfl, ⟨rfl, trivial⟩⟩⟩ ?_
  obtain ⟨o13, e14, hF⟩ := mm_bind hF
  refine r_X3_copyFrom_L2 hX 1000 x0 x1 (ki 0) h o13 e14 ?_
  refine go_adv hX c_23 1 (F2 := (29, [.ref x1], [(0, .ref x0), (1, .ref x1)], o13)) rfl ?_
  obtain ⟨v15, e16, hF⟩ := mm_bind hF
  refine go_gR hX c_23 rfl e16 ?_
  refine go_adv hX c_23 2 (F2 := (34, [.ref x0, .int (ki 0), .ref v15], [(0, .ref x0), (1, .ref x1)], o13)) rfl ?_
  obtain ⟨v17, e18, hF⟩ := mm_bind hF
  refine go_gR hX c_23 rfl e18 ?_
  refine go_adv hX c_23 2 (F2 := (40, [.int (kb 8), .int (ki 0), .ref v17, .int (ki 0), .ref v15], [(0, .ref x0), (1, .ref x1)], o13)) rfl ?_
  obtain ⟨h19, e20, hF⟩ := mm_bind hF
  refine go_cp hX c_23 rfl (Nat.le_of_ble_eq_true rfl) e20 ?_
  refine go_adv hX c_23 2 (F2 := (45, [], [(2, .int (ki 0)), (0, .ref x0), (1, .ref x1)], h19)) rfl ?_
  refine go_ls [(0, .ref x0), (1, .ref x1), (2, .int (ki 0))] ⟨rfl, ⟨rfl, ⟨rfl, trivial⟩⟩⟩ ?_
  obtain ⟨o33, e34, hF⟩ := mm_bind hF
  refine r_X3_copyFrom_L45 hX 1000 x0 x1 (ki 0) h19 o33 e34 ?_
  refine go_adv hX c_23 2 (F2 := (74, [.ref x1, .ref x0], [(0, .ref x0), (1, .ref x1)], o33)) rfl ?_
  obtain ⟨v35, e36, hF⟩ := mm_bind hF
  refine go_gI hX c_23 rfl e36 ?_
  obtain ⟨h37, e38, hF⟩ := mm_bind hF
  refine go_pV hX c_23 rfl e38 ?_
  refine go_adv hX c_23 2 (F2 := (82, [.ref x1, .ref x0], [(0, .ref x0), (1, .ref x1)], h37)) rfl ?_
  obtain ⟨v39, e40, hF⟩ := mm_bind hF
  refine go_gI hX c_23 rfl e40 ?_
  obtain ⟨h41, e42, hF⟩ := mm_bind hF
  refine go_pV hX c_23 rfl e42 ?_
  refine go_adv hX c_23 2 (F2 := (90, [.ref x1, .ref x0], [(0, .ref x0), (1, .ref x1)], h41)) rfl ?_
  obtain ⟨v43, e44, hF⟩ := mm_bind hF
  refine go_gI hX c_23 rfl e44 ?_
  obtain ⟨h45, e46, hF⟩ := mm_bind hF
  refine go_pV hX c_23 rfl e46 ?_
  refine go_adv hX c_23 2 (F2 := (98, [.ref x1, .ref x0], [(0, .ref x0), (1, .ref x1)], h45)) rfl ?_
  obtain ⟨v47, e48, hF⟩ := mm_bind hF
  refine go_gI hX c_23 rfl e48 ?_
  obtain ⟨h49, e50, hF⟩ := mm_bind hF
  refine go_pV hX c_23 rfl e50 ?_
  refine go_adv hX c_23 2 (F2 := (106, [.ref x1, .ref x0], [(0, .ref x0), (1, .ref x1)], h49)) rfl ?_
  obtain ⟨v51, e52, hF⟩ := mm_bind hF
  refine go_gI hX c_23 rfl e52 ?_
  obtain ⟨h53, e54, hF⟩ := mm_bind hF
  refine go_pV hX c_23 rfl e54 ?_
  refine go_adv hX c_23 2 (F2 := (114, [.ref x1, .ref x0], [(0, .ref x0), (1, .ref x1)], h53)) rfl ?_
  obtain ⟨v55, e56, hF⟩ := mm_bind hF
  refine go_gI hX c_23 rfl e56 ?_
  obtain ⟨h57, e58, hF⟩ := mm_bind hF
  refine go_pV hX c_23 rfl e58 ?_
  refine go_adv hX c_23 2 (F2 := (122, [.ref x1, .ref x0], [(0, .ref x0), (1, .ref x1)], h57)) rfl ?_
  obtain ⟨v59, e60, hF⟩ := mm_bind hF
  refine go_gI hX c_23 rfl e60 ?_
  obtain ⟨h61, e62, hF⟩ := mm_bind hF
  refine go_pV hX c_23 rfl e62 ?_
  cases hF
  exact go_ret hX c_23 rfl rfl hQ
theorem c_37 : mm_cd 37 = k_X3_levyToCome := rfl
def F_X3_levyToCome (h : mm_S) (x0 : Nat) (x1 : Int32) (x2 : Int32) : Option Int32 :=
  (fx_is h x0 3).bind fun _ =>
  (F_X3_whyNotLevy h x0 x1 x2).bind fun v2 =>
  if (lg_cmp v2 (kl 0)) ≠ 0 then
    some (ki 0)
  else
    (fx_is h x0 3).bind fun _ =>
    (F_X3_coinsForDust h x0 x1 x2).bind fun v6 =>
    some v6
theorem r_X3_levyToCome {X : mm_Cl} (hX : mm_mono X) {d c k : Nat} {Q : mm_Re → Prop} {h : mm_S} {x0 : Nat} {x1 : Int32} {x2 : Int32} {o : Int32} (hF : F_X3_levyToCome h x0 x1 x2 = some o) (hQ : Q (.inl (some (.int o)), h)) : mm_Run X (d + 5) 37 c k [.ref x0, .int x1, .int x2] h Q := by
  unfold F_X3_levyToCome at hF
  refine mm_Run_in (by decide) (by decide) (Nat.le_of_ble_eq_true rfl) ?_
  show mm_Ex (mm_Run X (d + 4)) 37 Q (0, [], [(0, .ref x0), (1, .int x1), (2, .int x2)], h) c k
  refine go_adv hX c_37 3 (F2 := (3, [.int x2, .int x1, .ref x0], [(0, .ref x0), (1, .int x1), (2, .int x2)], h)) rfl ?_
  obtain ⟨_, e1, hF⟩ := mm_bind hF
  obtain ⟨v2, e3, hF⟩ := mm_bind hF
  refine go_cV hX (As := [.int x1, .int x2]) (rv := some (.long v2)) (h2 := h) (ci := 3) c_37 rfl (Nat.le_of_ble_eq_true rfl) rfl rfl e1 (by decide) (Nat.le_of_ble_eq_true rfl) (fun Q2 hQ2 => r_X3_whyNotLevy hX (d := d) e3 hQ2) ?_
  refine go_adv hX c_37 2 (F2 := (8, [.int (lg_cmp v2 (kl 0))], [(0, .ref x0), (1, .int x1), (2, .int x2)], h)) rfl ?_
  rcases mm_ite hF with ⟨hc4, hF⟩ | ⟨hc4, hF⟩
  · refine go_zt hX 20 c_37 rfl rfl hc4 ?_
    refine go_adv hX c_37 1 (F2 := (21, [.int (ki 0)], [(0, .ref x0), (1, .int x1), (2, .int x2)], h)) rfl ?_
    cases hF
    exact go_iret hX c_37 rfl rfl rfl hQ
  · refine go_zf hX c_37 rfl (by decide) hc4 ?_
    refine go_adv hX c_37 3 (F2 := (14, [.int x2, .int x1, .ref x0], [(0, .ref x0), (1, .int x1), (2, .int x2)], h)) rfl ?_
    obtain ⟨_, e5, hF⟩ := mm_bind hF
    obtain ⟨v6, e7, hF⟩ := mm_bind hF
    refine go_cV hX (As := [.int x1, .int x2]) (rv := some (.int v6)) (h2 := h) (ci := 3) c_37 rfl (Nat.le_of_ble_eq_true rfl) rfl rfl e5 (by decide) (Nat.le_of_ble_eq_true rfl) (fun Q2 hQ2 => r_X3_coinsForDust hX (d := (d + 3)) e7 hQ2) ?_
    refine go_to hX 21 c_37 rfl rfl ?_
    cases hF
    exact go_iret hX c_37 rfl rfl rfl hQ
theorem c_51 : mm_cd 51 = k_X3_leasesOf := rfl
def F_X3_leasesOf_L4 (h : mm_S) : Nat → Nat → Int32 → Int32 → Int32 → Option Int32
  | 0, _, _, _, _ => none
  | n + 1, x0, x1, x2, x3 =>
    (fx_gI h x0 3 3).bind fun v1 =>
    if v1 ≤ x3 then
      some x2
    else
      (fx_gR h x0 3 2).bind fun v4 =>
      (fx_aR h v4 x3).bind fun v6 =>
      (fx_gI h v6 2 5).bind fun v8 =>
      if v8 ≠ x1 then
        F_X3_leasesOf_L4 h n x0 x1 x2 (x3 + ki 1)
      else
        F_X3_leasesOf_L4 h n x0 x1 (x2 + ki 1) (x3 + ki 1)
def F_X3_leasesOf (h : mm_S) (x0 : Nat) (x1 : Int32) : Option Int32 :=
  (F_X3_leasesOf_L4 h 1000 x0 x1 (ki 0) (ki 0)).bind fun o11 =>
  some o11
theorem r_X3_leasesOf_L4 {X : mm_Cl} (hX : mm_mono X) {d c k : Nat} {Q : mm_Re → Prop} {h : mm_S} : ∀ (n : Nat) (x0 : Nat) (x1 : Int32) (x2 : Int32) (x3 : Int32) (o : Int32), F_X3_leasesOf_L4 h n x0 x1 x2 x3 = some o → (mm_Ex (mm_Run X d) 51 Q (34, [], [(2, .int o)], h) c k) → mm_Ex (mm_Run X d) 51 Q (4, [], [(0, .ref x0), (1, .int x1), (2, .int x2), (3, .int x3)], h) c k := by
  intro n
  induction n with
  | zero => intro x0 x1 x2 x3 o hF; cases hF
  | succ n ih =>
    intro x0 x1 x2 x3 o hF hE
    unfold F_X3_leasesOf_L4 at hF
    refine go_adv hX c_51 2 (F2 := (6, [.ref x0, .int x3], [(0, .ref x0), (1, .int x1), (2, .int x2), (3, .int x3)], h)) rfl ?_
    obtain ⟨v1, e2, hF⟩ := mm_bind hF
    refine go_gI hX c_51 rfl e2 ?_
    rcases mm_ite hF with ⟨hc3, hF⟩ | ⟨hc3, hF⟩
    · refine go_ct hX 34 c_51 rfl rfl hc3 ?_
      cases hF
      refine go_ls [(2, .int x2)] ⟨rfl, trivial⟩ ?_
      exact hE
    · refine go_cf hX c_51 rfl (by decide) hc3 ?_
      refine go_adv hX c_51 1 (F2 := (13, [.ref x0], [(0, .ref x0), (1, .int x1), (2, .int x2), (3, .int x3)], h)) rfl ?_
      obtain ⟨v4, e5, hF⟩ := mm_bind hF
      refine go_gR hX c_51 rfl e5 ?_
      refine go_adv hX c_51 1 (F2 := (17, [.int x3, .ref v4], [(0, .ref x0), (1, .int x1), (2, .int x2), (3, .int x3)], h)) rfl ?_
      obtain ⟨v6, e7, hF⟩ := mm_bind hF
      refine go_aR hX c_51 rfl e7 ?_
      obtain ⟨v8, e9, hF⟩ := mm_bind hF
      refine go_gI hX c_51 rfl e9 ?_
      refine go_adv hX c_51 1 (F2 := (22, [.int x1, .int v8], [(0, .ref x0), (1, .int x1), (2, .int x2), (3, .int x3)], h)) rfl ?_
      rcases mm_ite hF with ⟨hc10, hF⟩ | ⟨hc10, hF⟩
      · refine go_ct hX 28 c_51 rfl rfl hc10 ?_
        refine go_adv hX c_51 1 (F2 := (31, [], [(3, .int (x3 + ki 1)), (0, .ref x0), (1, .int x1), (2, .int x2)], h)) rfl ?_
        refine go_to hX 4 c_51 rfl rfl ?_
        refine go_ls [(0, .ref x0), (1, .int x1), (2, .int x2), (3, .int (x3 + ki 1))] ⟨rfl, ⟨rfl, ⟨rfl, ⟨rfl, trivial⟩⟩⟩⟩ ?_
        exact ih x0 x1 x2 (x3 + ki 1) _ hF hE
      · refine go_cf hX c_51 rfl (by decide) hc10 ?_
        refine go_adv hX c_51 2 (F2 := (31, [], [(3, .int (x3 + ki 1)), (2, .int (x2 + ki 1)), (0, .ref x0), (1, .int x1)], h)) rfl ?_
        refine go_to hX 4 c_51 rfl rfl ?_
        refine go_ls [(0, .ref x0), (1, .int x1), (2, .int (x2 + ki 1)), (3, .int (x3 + ki 1))] ⟨rfl, ⟨rfl, ⟨rfl, ⟨rfl, trivial⟩⟩⟩⟩ ?_
        exact ih x0 x1 (x2 + ki 1) (x3 + ki 1) _ hF hE
theorem r_X3_leasesOf {X : mm_Cl} (hX : mm_mono X) {d c k : Nat} {Q : mm_Re → Prop} {h : mm_S} {x0 : Nat} {x1 : Int32} {o : Int32} (hF : F_X3_leasesOf h x0 x1 = some o) (hQ : Q (.inl (some (.int o)), h)) : mm_Run X (d + 1) 51 c k [.ref x0, .int x1] h Q := by
  unfold F_X3_leasesOf at hF
  refine mm_Run_in (by decide) (by decide) (Nat.le_of_ble_eq_true rfl) ?_
  show mm_Ex (mm_Run X d) 51 Q (0, [], [(0, .ref x0), (1, .int x1)], h) c k
  refine go_adv hX c_51 4 (F2 := (4, [], [(3, .int (ki 0)), (2, .int (ki 0)), (0, .ref x0), (1, .int x1)], h)) rfl ?_
  refine go_ls [(0, .ref x0), (1, .int x1), (2, .int (ki 0)), (3, .int (ki 0))] ⟨rfl, ⟨rfl, ⟨rfl, ⟨rfl, trivial⟩⟩⟩⟩ ?_
  obtain ⟨o11, e12, hF⟩ := mm_bind hF
  refine r_X3_leasesOf_L4 hX 1000 x0 x1 (ki 0) (ki 0) o11 e12 ?_
  refine go_adv hX c_51 1 (F2 := (35, [.int o11], [(2, .int o11)], h)) rfl ?_
  cases hF
  exact go_iret hX c_51 rfl rfl rfl hQ
theorem c_52 : mm_cd 52 = k_X3_dustOnAll := rfl
def F_X3_dustOnAll_L4 (h : mm_S) : Nat → Nat → Int32 → Int32 → Option Int32
  | 0, _, _, _ => none
  | n + 1, x0, x1, x2 =>
    (fx_gI h x0 3 3).bind fun v1 =>
    if v1 ≤ x2 then
      some x1
    else
      (fx_gR h x0 3 2).bind fun v4 =>
      (fx_aR h v4 x2).bind fun v6 =>
      (fx_gI h v6 2 3).bind fun v8 =>
      F_X3_dustOnAll_L4 h n x0 (x1 + v8) (x2 + ki 1)
def F_X3_dustOnAll (h : mm_S) (x0 : Nat) : Option Int32 :=
  (F_X3_dustOnAll_L4 h 1000 x0 (ki 0) (ki 0)).bind fun o10 =>
  some o10
theorem r_X3_dustOnAll_L4 {X : mm_Cl} (hX : mm_mono X) {d c k : Nat} {Q : mm_Re → Prop} {h : mm_S} : ∀ (n : Nat) (x0 : Nat) (x1 : Int32) (x2 : Int32) (o : Int32), F_X3_dustOnAll_L4 h n x0 x1 x2 = some o → (mm_Ex (mm_Run X d) 52 Q (30, [], [(1, .int o)], h) c k) → mm_Ex (mm_Run X d) 52 Q (4, [], [(0, .ref x0), (1, .int x1), (2, .int x2)], h) c k := by
  intro n
  induction n with
  | zero => intro x0 x1 x2 o hF; cases hF
  | succ n ih =>
    intro x0 x1 x2 o hF hE
    unfold F_X3_dustOnAll_L4 at hF
    refine go_adv hX c_52 2 (F2 := (6, [.ref x0, .int x2], [(0, .ref x0), (1, .int x1), (2, .int x2)], h)) rfl ?_
    obtain ⟨v1, e2, hF⟩ := mm_bind hF
    refine go_gI hX c_52 rfl e2 ?_
    rcases mm_ite hF with ⟨hc3, hF⟩ | ⟨hc3, hF⟩
    · refine go_ct hX 30 c_52 rfl rfl hc3 ?_
      cases hF
      refine go_ls [(1, .int x1)] ⟨rfl, trivial⟩ ?_
      exact hE
    · refine go_cf hX c_52 rfl (by decide) hc3 ?_
      refine go_adv hX c_52 2 (F2 := (14, [.ref x0, .int x1], [(0, .ref x0), (1, .int x1), (2, .int x2)], h)) rfl ?_
      obtain ⟨v4, e5, hF⟩ := mm_bind hF
      refine go_gR hX c_52 rfl e5 ?_
      refine go_adv hX c_52 1 (F2 := (18, [.int x2, .ref v4, .int x1], [(0, .ref x0), (1, .int x1), (2, .int x2)], h)) rfl ?_
      obtain ⟨v6, e7, hF⟩ := mm_bind hF
      refine go_aR hX c_52 rfl e7 ?_
      obtain ⟨v8, e9, hF⟩ := mm_bind hF
      refine go_gI hX c_52 rfl e9 ?_
      refine go_adv hX c_52 3 (F2 := (27, [], [(2, .int (x2 + ki 1)), (1, .int (x1 + v8)), (0, .ref x0)], h)) rfl ?_
      refine go_to hX 4 c_52 rfl rfl ?_
      refine go_ls [(0, .ref x0), (1, .int (x1 + v8)), (2, .int (x2 + ki 1))] ⟨rfl, ⟨rfl, ⟨rfl, trivial⟩⟩⟩ ?_
      exact ih x0 (x1 + v8) (x2 + ki 1) _ hF hE
theorem r_X3_dustOnAll {X : mm_Cl} (hX : mm_mono X) {d c k : Nat} {Q : mm_Re → Prop} {h : mm_S} {x0 : Nat} {o : Int32} (hF : F_X3_dustOnAll h x0 = some o) (hQ : Q (.inl (some (.int o)), h)) : mm_Run X (d + 1) 52 c k [.ref x0] h Q := by
  unfold F_X3_dustOnAll at hF
  refine mm_Run_in (by decide) (by decide) (Nat.le_of_ble_eq_true rfl) ?_
  show mm_Ex (mm_Run X d) 52 Q (0, [], [(0, .ref x0)], h) c k
  refine go_adv hX c_52 4 (F2 := (4, [], [(2, .int (ki 0)), (1, .int (ki 0)), (0, .ref x0)], h)) rfl ?_
  refine go_ls [(0, .ref x0), (1, .int (ki 0)), (2, .int (ki 0))] ⟨rfl, ⟨rfl, ⟨rfl, trivial⟩⟩⟩ ?_
  obtain ⟨o10, e11, hF⟩ := mm_bind hF
  refine r_X3_dustOnAll_L4 hX 1000 x0 (ki 0) (ki 0) o10 e11 ?_
  refine go_adv hX c_52 1 (F2 := (31, [.int o10], [(1, .int o10)], h)) rfl ?_
  cases hF
  exact go_iret hX c_52 rfl rfl rfl hQ
theorem c_53 : mm_cd 53 = k_X3_stepsOfAll := rfl
def F_X3_stepsOfAll_L4 (h : mm_S) : Nat → Nat → Int32 → Int32 → Option Int32
  | 0, _, _, _ => none
  | n + 1, x0, x1, x2 =>
    (fx_gI h x0 3 3).bind fun v1 =>
    if v1 ≤ x2 then
      some x1
    else
      (fx_gR h x0 3 2).bind fun v4 =>
      (fx_aR h v4 x2).bind fun v6 =>
      (fx_gI h v6 2 2).bind fun v8 =>
      F_X3_stepsOfAll_L4 h n x0 (x1 + v8) (x2 + ki 1)
def F_X3_stepsOfAll (h : mm_S) (x0 : Nat) : Option Int32 :=
  (F_X3_stepsOfAll_L4 h 1000 x0 (ki 0) (ki 0)).bind fun o10 =>
  some o10
theorem r_X3_stepsOfAll_L4 {X : mm_Cl} (hX : mm_mono X) {d c k : Nat} {Q : mm_Re → Prop} {h : mm_S} : ∀ (n : Nat) (x0 : Nat) (x1 : Int32) (x2 : Int32) (o : Int32), F_X3_stepsOfAll_L4 h n x0 x1 x2 = some o → (mm_Ex (mm_Run X d) 53 Q (30, [], [(1, .int o)], h) c k) → mm_Ex (mm_Run X d) 53 Q (4, [], [(0, .ref x0), (1, .int x1), (2, .int x2)], h) c k := by
  intro n
  induction n with
  | zero => intro x0 x1 x2 o hF; cases hF
  | succ n ih =>
    intro x0 x1 x2 o hF hE
    unfold F_X3_stepsOfAll_L4 at hF
    refine go_adv hX c_53 2 (F2 := (6, [.ref x0, .int x2], [(0, .ref x0), (1, .int x1), (2, .int x2)], h)) rfl ?_
    obtain ⟨v1, e2, hF⟩ := mm_bind hF
    refine go_gI hX c_53 rfl e2 ?_
    rcases mm_ite hF with ⟨hc3, hF⟩ | ⟨hc3, hF⟩
    · refine go_ct hX 30 c_53 rfl rfl hc3 ?_
      cases hF
      refine go_ls [(1, .int x1)] ⟨rfl, trivial⟩ ?_
      exact hE
    · refine go_cf hX c_53 rfl (by decide) hc3 ?_
      refine go_adv hX c_53 2 (F2 := (14, [.ref x0, .int x1], [(0, .ref x0), (1, .int x1), (2, .int x2)], h)) rfl ?_
      obtain ⟨v4, e5, hF⟩ := mm_bind hF
      refine go_gR hX c_53 rfl e5 ?_
      refine go_adv hX c_53 1 (F2 := (18, [.int x2, .ref v4, .int x1], [(0, .ref x0), (1, .int x1), (2, .int x2)], h)) rfl ?_
      obtain ⟨v6, e7, hF⟩ := mm_bind hF
      refine go_aR hX c_53 rfl e7 ?_
      obtain ⟨v8, e9, hF⟩ := mm_bind hF
      refine go_gI hX c_53 rfl e9 ?_
      refine go_adv hX c_53 3 (F2 := (27, [], [(2, .int (x2 + ki 1)), (1, .int (x1 + v8)), (0, .ref x0)], h)) rfl ?_
      refine go_to hX 4 c_53 rfl rfl ?_
      refine go_ls [(0, .ref x0), (1, .int (x1 + v8)), (2, .int (x2 + ki 1))] ⟨rfl, ⟨rfl, ⟨rfl, trivial⟩⟩⟩ ?_
      exact ih x0 (x1 + v8) (x2 + ki 1) _ hF hE
theorem r_X3_stepsOfAll {X : mm_Cl} (hX : mm_mono X) {d c k : Nat} {Q : mm_Re → Prop} {h : mm_S} {x0 : Nat} {o : Int32} (hF : F_X3_stepsOfAll h x0 = some o) (hQ : Q (.inl (some (.int o)), h)) : mm_Run X (d + 1) 53 c k [.ref x0] h Q := by
  unfold F_X3_stepsOfAll at hF
  refine mm_Run_in (by decide) (by decide) (Nat.le_of_ble_eq_true rfl) ?_
  show mm_Ex (mm_Run X d) 53 Q (0, [], [(0, .ref x0)], h) c k
  refine go_adv hX c_53 4 (F2 := (4, [], [(2, .int (ki 0)), (1, .int (ki 0)), (0, .ref x0)], h)) rfl ?_
  refine go_ls [(0, .ref x0), (1, .int (ki 0)), (2, .int (ki 0))] ⟨rfl, ⟨rfl, ⟨rfl, trivial⟩⟩⟩ ?_
  obtain ⟨o10, e11, hF⟩ := mm_bind hF
  refine r_X3_stepsOfAll_L4 hX 1000 x0 (ki 0) (ki 0) o10 e11 ?_
  refine go_adv hX c_53 1 (F2 := (31, [.int o10], [(1, .int o10)], h)) rfl ?_
  cases hF
  exact go_iret hX c_53 rfl rfl rfl hQ
theorem c_54 : mm_cd 54 = k_X3_placeOf := rfl
def F_X3_placeOf_L17 (h : mm_S) : Nat → Nat → Int32 → Int32 → Int32 → Int32 → Int32 → Option Int32
  | 0, _, _, _, _, _, _ => none
  | n + 1, x0, x1, x2, x3, x4, x5 =>
    (fx_gI h x0 3 3).bind fun v8 =>
    if v8 ≤ x5 then
      some x4
    else
      (fx_gR h x0 3 2).bind fun v11 =>
      (fx_aR h v11 x5).bind fun v13 =>
      (fx_is h v13 2).bind fun _ =>
      (F_X2_keyOf h v13 x2).bind fun v16 =>
      if x3 < v16 then
        F_X3_placeOf_L17 h n x0 x1 x2 x3 (x4 + ki 1) (x5 + ki 1)
      else
        if v16 ≠ x3 then
          F_X3_placeOf_L17 h n x0 x1 x2 x3 x4 (x5 + ki 1)
        else
          if x1 ≤ x5 then
            F_X3_placeOf_L17 h n x0 x1 x2 x3 x4 (x5 + ki 1)
          else
            F_X3_placeOf_L17 h n x0 x1 x2 x3 (x4 + ki 1) (x5 + ki 1)
def F_X3_placeOf (h : mm_S) (x0 : Nat) (x1 : Int32) (x2 : Int32) : Option Int32 :=
  (fx_gR h x0 3 2).bind fun v1 =>
  (fx_aR h v1 x1).bind fun v3 =>
  (fx_is h v3 2).bind fun _ =>
  (F_X2_keyOf h v3 x2).bind fun v6 =>
  (F_X3_placeOf_L17 h 1000 x0 x1 x2 v6 (ki 0) (ki 0)).bind fun o21 =>
  some o21
theorem r_X3_placeOf_L17 {X : mm_Cl} (hX : mm_mono X) {d c k : Nat} {Q : mm_Re → Prop} {h : mm_S} : ∀ (n : Nat) (x0 : Nat) (x1 : Int32) (x2 : Int32) (x3 : Int32) (x4 : Int32) (x5 : Int32) (o : Int32), F_X3_placeOf_L17 h n x0 x1 x2 x3 x4 x5 = some o → (mm_Ex (mm_Run X (d + 2)) 54 Q (66, [], [(4, .int o)], h) c k) → mm_Ex (mm_Run X (d + 2)) 54 Q (17, [], [(0, .ref x0), (1, .int x1), (2, .int x2), (3, .int x3), (4, .int x4), (5, .int x5)], h) c k := by
  intro n
  induction n with
  | zero => intro x0 x1 x2 x3 x4 x5 o hF; cases hF
  | succ n ih =>
    intro x0 x1 x2 x3 x4 x5 o hF hE
    unfold F_X3_placeOf_L17 at hF
    refine go_adv hX c_54 2 (F2 := (20, [.ref x0, .int x5], [(0, .ref x0), (1, .int x1), (2, .int x2), (3, .int x3), (4, .int x4), (5, .int x5)], h)) rfl ?_
    obtain ⟨v8, e9, hF⟩ := mm_bind hF
    refine go_gI hX c_54 rfl e9 ?_
    rcases mm_ite hF with ⟨hc10, hF⟩ | ⟨hc10, hF⟩
    · refine go_ct hX 66 c_54 rfl rfl hc10 ?_
      cases hF
      refine go_ls [(4, .int x4)] ⟨rfl, trivial⟩ ?_
      exact hE
    · refine go_cf hX c_54 rfl (by decide) hc10 ?_
      refine go_adv hX c_54 1 (F2 := (27, [.ref x0], [(0, .ref x0), (1, .int x1), (2, .int x2), (3, .int x3), (4, .int x4), (5, .int x5)], h)) rfl ?_
      obtain ⟨v11, e12, hF⟩ := mm_bind hF
      refine go_gR hX c_54 rfl e12 ?_
      refine go_adv hX c_54 1 (F2 := (32, [.int x5, .ref v11], [(0, .ref x0), (1, .int x1), (2, .int x2), (3, .int x3), (4, .int x4), (5, .int x5)], h)) rfl ?_
      obtain ⟨v13, e14, hF⟩ := mm_bind hF
      refine go_aR hX c_54 rfl e14 ?_
      refine go_adv hX c_54 1 (F2 := (34, [.int x2, .ref v13], [(0, .ref x0), (1, .int x1), (2, .int x2), (3, .int x3), (4, .int x4), (5, .int x5)], h)) rfl ?_
      obtain ⟨_, e15, hF⟩ := mm_bind hF
      obtain ⟨v16, e17, hF⟩ := mm_bind hF
      refine go_cV hX (As := [.int x2]) (rv := some (.int v16)) (h2 := h) (ci := 2) c_54 rfl (Nat.le_of_ble_eq_true rfl) rfl rfl e15 (by decide) (Nat.le_of_ble_eq_true rfl) (fun Q2 hQ2 => r_X2_keyOf hX (d := d) e17 hQ2) ?_
      refine go_adv hX c_54 3 (F2 := (42, [.int x3, .int v16], [(6, .int v16), (0, .ref x0), (1, .int x1), (2, .int x2), (3, .int x3), (4, .int x4), (5, .int x5)], h)) rfl ?_
      rcases mm_ite hF with ⟨hc18, hF⟩ | ⟨hc18, hF⟩
      · refine go_ct hX 57 c_54 rfl rfl hc18 ?_
        refine go_adv hX c_54 2 (F2 := (63, [], [(5, .int (x5 + ki 1)), (4, .int (x4 + ki 1)), (6, .int v16), (0, .ref x0), (1, .int x1), (2, .int x2), (3, .int x3)], h)) rfl ?_
        refine go_to hX 17 c_54 rfl rfl ?_
        refine go_ls [(0, .ref x0), (1, .int x1), (2, .int x2), (3, .int x3), (4, .int (x4 + ki 1)), (5, .int (x5 + ki 1))] ⟨rfl, ⟨rfl, ⟨rfl, ⟨rfl, ⟨rfl, ⟨rfl, trivial⟩⟩⟩⟩⟩⟩ ?_
        exact ih x0 x1 x2 x3 (x4 + ki 1) (x5 + ki 1) _ hF hE
      · refine go_cf hX c_54 rfl (by decide) hc18 ?_
        refine go_adv hX c_54 2 (F2 := (48, [.int x3, .int v16], [(6, .int v16), (0, .ref x0), (1, .int x1), (2, .int x2), (3, .int x3), (4, .int x4), (5, .int x5)], h)) rfl ?_
        rcases mm_ite hF with ⟨hc19, hF⟩ | ⟨hc19, hF⟩
        · refine go_ct hX 60 c_54 rfl rfl hc19 ?_
          refine go_adv hX c_54 1 (F2 := (63, [], [(5, .int (x5 + ki 1)), (6, .int v16), (0, .ref x0), (1, .int x1), (2, .int x2), (3, .int x3), (4, .int x4)], h)) rfl ?_
          refine go_to hX 17 c_54 rfl rfl ?_
          refine go_ls [(0, .ref x0), (1, .int x1), (2, .int x2), (3, .int x3), (4, .int x4), (5, .int (x5 + ki 1))] ⟨rfl, ⟨rfl, ⟨rfl, ⟨rfl, ⟨rfl, ⟨rfl, trivial⟩⟩⟩⟩⟩⟩ ?_
          exact ih x0 x1 x2 x3 x4 (x5 + ki 1) _ hF hE
        · refine go_cf hX c_54 rfl (by decide) hc19 ?_
          refine go_adv hX c_54 2 (F2 := (54, [.int x1, .int x5], [(6, .int v16), (0, .ref x0), (1, .int x1), (2, .int x2), (3, .int x3), (4, .int x4), (5, .int x5)], h)) rfl ?_
          rcases mm_ite hF with ⟨hc20, hF⟩ | ⟨hc20, hF⟩
          · refine go_ct hX 60 c_54 rfl rfl hc20 ?_
            refine go_adv hX c_54 1 (F2 := (63, [], [(5, .int (x5 + ki 1)), (6, .int v16), (0, .ref x0), (1, .int x1), (2, .int x2), (3, .int x3), (4, .int x4)], h)) rfl ?_
            refine go_to hX 17 c_54 rfl rfl ?_
            refine go_ls [(0, .ref x0), (1, .int x1), (2, .int x2), (3, .int x3), (4, .int x4), (5, .int (x5 + ki 1))] ⟨rfl, ⟨rfl, ⟨rfl, ⟨rfl, ⟨rfl, ⟨rfl, trivial⟩⟩⟩⟩⟩⟩ ?_
            exact ih x0 x1 x2 x3 x4 (x5 + ki 1) _ hF hE
          · refine go_cf hX c_54 rfl (by decide) hc20 ?_
            refine go_adv hX c_54 2 (F2 := (63, [], [(5, .int (x5 + ki 1)), (4, .int (x4 + ki 1)), (6, .int v16), (0, .ref x0), (1, .int x1), (2, .int x2), (3, .int x3)], h)) rfl ?_
            refine go_to hX 17 c_54 rfl rfl ?_
            refine go_ls [(0, .ref x0), (1, .int x1), (2, .int x2), (3, .int x3), (4, .int (x4 + ki 1)), (5, .int (x5 + ki 1))] ⟨rfl, ⟨rfl, ⟨rfl, ⟨rfl, ⟨rfl, ⟨rfl, trivial⟩⟩⟩⟩⟩⟩ ?_
            exact ih x0 x1 x2 x3 (x4 + ki 1) (x5 + ki 1) _ hF hE
theorem r_X3_placeOf {X : mm_Cl} (hX : mm_mono X) {d c k : Nat} {Q : mm_Re → Prop} {h : mm_S} {x0 : Nat} {x1 : Int32} {x2 : Int32} {o : Int32} (hF : F_X3_placeOf h x0 x1 x2 = some o) (hQ : Q (.inl (some (.int o)), h)) : mm_Run X (d + 3) 54 c k [.ref x0, .int x1, .int x2] h Q := by
  unfold F_X3_placeOf at hF
  refine mm_Run_in (by decide) (by decide) (Nat.le_of_ble_eq_true rfl) ?_
  show mm_Ex (mm_Run X (d + 2)) 54 Q (0, [], [(0, .ref x0), (1, .int x1), (2, .int x2)], h) c k
  refine go_adv hX c_54 1 (F2 := (1, [.ref x0], [(0, .ref x0), (1, .int x1), (2, .int x2)], h)) rfl ?_
  obtain ⟨v1, e2, hF⟩ := mm_bind hF
  refine go_gR hX c_54 rfl e2 ?_
  refine go_adv hX c_54 1 (F2 := (5, [.int x1, .ref v1], [(0, .ref x0), (1, .int x1), (2, .int x2)], h)) rfl ?_
  obtain ⟨v3, e4, hF⟩ := mm_bind hF
  refine go_aR hX c_54 rfl e4 ?_
  refine go_adv hX c_54 1 (F2 := (7, [.int x2, .ref v3], [(0, .ref x0), (1, .int x1), (2, .int x2)], h)) rfl ?_
  obtain ⟨_, e5, hF⟩ := mm_bind hF
  obtain ⟨v6, e7, hF⟩ := mm_bind hF
  refine go_cV hX (As := [.int x2]) (rv := some (.int v6)) (h2 := h) (ci := 2) c_54 rfl (Nat.le_of_ble_eq_true rfl) rfl rfl e5 (by decide) (Nat.le_of_ble_eq_true rfl) (fun Q2 hQ2 => r_X2_keyOf hX (d := d) e7 hQ2) ?_
  refine go_adv hX c_54 5 (F2 := (17, [], [(5, .int (ki 0)), (4, .int (ki 0)), (3, .int v6), (0, .ref x0), (1, .int x1), (2, .int x2)], h)) rfl ?_
  refine go_ls [(0, .ref x0), (1, .int x1), (2, .int x2), (3, .int v6), (4, .int (ki 0)), (5, .int (ki 0))] ⟨rfl, ⟨rfl, ⟨rfl, ⟨rfl, ⟨rfl, ⟨rfl, trivial⟩⟩⟩⟩⟩⟩ ?_
  obtain ⟨o21, e22, hF⟩ := mm_bind hF
  refine r_X3_placeOf_L17 hX 1000 x0 x1 x2 v6 (ki 0) (ki 0) o21 e22 ?_
  refine go_adv hX c_54 1 (F2 := (68, [.int o21], [(4, .int o21)], h)) rfl ?_
  cases hF
  exact go_iret hX c_54 rfl rfl rfl hQ
theorem c_55 : mm_cd 55 = k_X3_isOpenTo := rfl
def F_X3_isOpenTo (h : mm_S) (x0 : Nat) (x1 : Int32) (x2 : Int32) : Option Int32 :=
  if x1 = (ki (-1)) then
    some (ki 1)
  else
    (fx_gR h x0 3 1).bind fun v2 =>
    (fx_aI h v2 x2).bind fun v4 =>
    if v4 = (ki 2) then
      some (ki 0)
    else
      some (ki 1)
theorem r_X3_isOpenTo {X : mm_Cl} (hX : mm_mono X) {d c k : Nat} {Q : mm_Re → Prop} {h : mm_S} {x0 : Nat} {x1 : Int32} {x2 : Int32} {o : Int32} (hF : F_X3_isOpenTo h x0 x1 x2 = some o) (hQ : Q (.inl (some (.int o)), h)) : mm_Run X (d + 1) 55 c k [.ref x0, .int x1, .int x2] h Q := by
  unfold F_X3_isOpenTo at hF
  refine mm_Run_in (by decide) (by decide) (Nat.le_of_ble_eq_true rfl) ?_
  show mm_Ex (mm_Run X d) 55 Q (0, [], [(0, .ref x0), (1, .int x1), (2, .int x2)], h) c k
  refine go_adv hX c_55 2 (F2 := (2, [.int (ki (-1)), .int x1], [(0, .ref x0), (1, .int x1), (2, .int x2)], h)) rfl ?_
  rcases mm_ite hF with ⟨hc1, hF⟩ | ⟨hc1, hF⟩
  · refine go_ct hX 15 c_55 rfl rfl hc1 ?_
    refine go_adv hX c_55 1 (F2 := (16, [.int (ki 1)], [(0, .ref x0), (1, .int x1), (2, .int x2)], h)) rfl ?_
    refine go_to hX 20 c_55 rfl rfl ?_
    cases hF
    exact go_iret hX c_55 rfl rfl (by decide) hQ
  · refine go_cf hX c_55 rfl (by decide) hc1 ?_
    refine go_adv hX c_55 1 (F2 := (6, [.ref x0], [(0, .ref x0), (1, .int x1), (2, .int x2)], h)) rfl ?_
    obtain ⟨v2, e3, hF⟩ := mm_bind hF
    refine go_gR hX c_55 rfl e3 ?_
    refine go_adv hX c_55 1 (F2 := (10, [.int x2, .ref v2], [(0, .ref x0), (1, .int x1), (2, .int x2)], h)) rfl ?_
    obtain ⟨v4, e5, hF⟩ := mm_bind hF
    refine go_aI hX c_55 rfl e5 ?_
    refine go_adv hX c_55 1 (F2 := (12, [.int (ki 2), .int v4], [(0, .ref x0), (1, .int x1), (2, .int x2)], h)) rfl ?_
    rcases mm_ite hF with ⟨hc6, hF⟩ | ⟨hc6, hF⟩
    · refine go_ct hX 19 c_55 rfl rfl hc6 ?_
      refine go_adv hX c_55 1 (F2 := (20, [.int (ki 0)], [(0, .ref x0), (1, .int x1), (2, .int x2)], h)) rfl ?_
      cases hF
      exact go_iret hX c_55 rfl rfl (by decide) hQ
    · refine go_cf hX c_55 rfl (by decide) hc6 ?_
      refine go_adv hX c_55 1 (F2 := (16, [.int (ki 1)], [(0, .ref x0), (1, .int x1), (2, .int x2)], h)) rfl ?_
      refine go_to hX 20 c_55 rfl rfl ?_
      cases hF
      exact go_iret hX c_55 rfl rfl (by decide) hQ
theorem c_56 : mm_cd 56 = k_X3_isNoGiantOnNeutral := rfl
def F_X3_isNoGiantOnNeutral (h : mm_S) (x0 : Nat) : Option Int32 :=
  (fx_gR h x0 3 1).bind fun v1 =>
  (fx_gR h x0 3 0).bind fun v3 =>
  (fx_aR h v3 (ki 0)).bind fun v5 =>
  (fx_gI h v5 0 1).bind fun v7 =>
  (fx_aI h v1 v7).bind fun v9 =>
  if v9 = (ki 2) then
    some (ki 0)
  else
    (fx_gR h x0 3 1).bind fun v12 =>
    (fx_gR h x0 3 0).bind fun v14 =>
    (fx_aR h v14 (ki 1)).bind fun v16 =>
    (fx_gI h v16 0 1).bind fun v18 =>
    (fx_aI h v12 v18).bind fun v20 =>
    if v20 = (ki 2) then
      some (ki 0)
    else
      some (ki 1)
theorem r_X3_isNoGiantOnNeutral {X : mm_Cl} (hX : mm_mono X) {d c k : Nat} {Q : mm_Re → Prop} {h : mm_S} {x0 : Nat} {o : Int32} (hF : F_X3_isNoGiantOnNeutral h x0 = some o) (hQ : Q (.inl (some (.int o)), h)) : mm_Run X (d + 1) 56 c k [.ref x0] h Q := by
  unfold F_X3_isNoGiantOnNeutral at hF
  refine mm_Run_in (by decide) (by decide) (Nat.le_of_ble_eq_true rfl) ?_
  show mm_Ex (mm_Run X d) 56 Q (0, [], [(0, .ref x0)], h) c k
  refine go_adv hX c_56 1 (F2 := (1, [.ref x0], [(0, .ref x0)], h)) rfl ?_
  obtain ⟨v1, e2, hF⟩ := mm_bind hF
  refine go_gR hX c_56 rfl e2 ?_
  refine go_adv hX c_56 1 (F2 := (5, [.ref x0, .ref v1], [(0, .ref x0)], h)) rfl ?_
  obtain ⟨v3, e4, hF⟩ := mm_bind hF
  refine go_gR hX c_56 rfl e4 ?_
  refine go_adv hX c_56 1 (F2 := (9, [.int (ki 0), .ref v3, .ref v1], [(0, .ref x0)], h)) rfl ?_
  obtain ⟨v5, e6, hF⟩ := mm_bind hF
  refine go_aR hX c_56 rfl e6 ?_
  obtain ⟨v7, e8, hF⟩ := mm_bind hF
  refine go_gI hX c_56 rfl e8 ?_
  obtain ⟨v9, e10, hF⟩ := mm_bind hF
  refine go_aI hX c_56 rfl e10 ?_
  refine go_adv hX c_56 1 (F2 := (15, [.int (ki 2), .int v9], [(0, .ref x0)], h)) rfl ?_
  rcases mm_ite hF with ⟨hc11, hF⟩ | ⟨hc11, hF⟩
  · refine go_ct hX 40 c_56 rfl rfl hc11 ?_
    refine go_adv hX c_56 1 (F2 := (41, [.int (ki 0)], [(0, .ref x0)], h)) rfl ?_
    cases hF
    exact go_iret hX c_56 rfl rfl (by decide) hQ
  · refine go_cf hX c_56 rfl (by decide) hc11 ?_
    refine go_adv hX c_56 1 (F2 := (19, [.ref x0], [(0, .ref x0)], h)) rfl ?_
    obtain ⟨v12, e13, hF⟩ := mm_bind hF
    refine go_gR hX c_56 rfl e13 ?_
    refine go_adv hX c_56 1 (F2 := (23, [.ref x0, .ref v12], [(0, .ref x0)], h)) rfl ?_
    obtain ⟨v14, e15, hF⟩ := mm_bind hF
    refine go_gR hX c_56 rfl e15 ?_
    refine go_adv hX c_56 1 (F2 := (27, [.int (ki 1), .ref v14, .ref v12], [(0, .ref x0)], h)) rfl ?_
    obtain ⟨v16, e17, hF⟩ := mm_bind hF
    refine go_aR hX c_56 rfl e17 ?_
    obtain ⟨v18, e19, hF⟩ := mm_bind hF
    refine go_gI hX c_56 rfl e19 ?_
    obtain ⟨v20, e21, hF⟩ := mm_bind hF
    refine go_aI hX c_56 rfl e21 ?_
    refine go_adv hX c_56 1 (F2 := (33, [.int (ki 2), .int v20], [(0, .ref x0)], h)) rfl ?_
    rcases mm_ite hF with ⟨hc22, hF⟩ | ⟨hc22, hF⟩
    · refine go_ct hX 40 c_56 rfl rfl hc22 ?_
      refine go_adv hX c_56 1 (F2 := (41, [.int (ki 0)], [(0, .ref x0)], h)) rfl ?_
      cases hF
      exact go_iret hX c_56 rfl rfl (by decide) hQ
    · refine go_cf hX c_56 rfl (by decide) hc22 ?_
      refine go_adv hX c_56 1 (F2 := (37, [.int (ki 1)], [(0, .ref x0)], h)) rfl ?_
      refine go_to hX 41 c_56 rfl rfl ?_
      cases hF
      exact go_iret hX c_56 rfl rfl (by decide) hQ
theorem c_57 : mm_cd 57 = k_X3_coinsOfAll := rfl
def F_X3_coinsOfAll (h : mm_S) (x0 : Nat) : Option Int32 :=
  (fx_gR h x0 3 0).bind fun v1 =>
  (fx_aR h v1 (ki 0)).bind fun v3 =>
  (fx_gI h v3 0 0).bind fun v5 =>
  (fx_gR h x0 3 0).bind fun v7 =>
  (fx_aR h v7 (ki 1)).bind fun v9 =>
  (fx_gI h v9 0 0).bind fun v11 =>
  (fx_gI h x0 3 6).bind fun v13 =>
  some ((v5 + v11) + v13)
theorem r_X3_coinsOfAll {X : mm_Cl} (hX : mm_mono X) {d c k : Nat} {Q : mm_Re → Prop} {h : mm_S} {x0 : Nat} {o : Int32} (hF : F_X3_coinsOfAll h x0 = some o) (hQ : Q (.inl (some (.int o)), h)) : mm_Run X (d + 1) 57 c k [.ref x0] h Q := by
  unfold F_X3_coinsOfAll at hF
  refine mm_Run_in (by decide) (by decide) (Nat.le_of_ble_eq_true rfl) ?_
  show mm_Ex (mm_Run X d) 57 Q (0, [], [(0, .ref x0)], h) c k
  refine go_adv hX c_57 1 (F2 := (1, [.ref x0], [(0, .ref x0)], h)) rfl ?_
  obtain ⟨v1, e2, hF⟩ := mm_bind hF
  refine go_gR hX c_57 rfl e2 ?_
  refine go_adv hX c_57 1 (F2 := (5, [.int (ki 0), .ref v1], [(0, .ref x0)], h)) rfl ?_
  obtain ⟨v3, e4, hF⟩ := mm_bind hF
  refine go_aR hX c_57 rfl e4 ?_
  obtain ⟨v5, e6, hF⟩ := mm_bind hF
  refine go_gI hX c_57 rfl e6 ?_
  refine go_adv hX c_57 1 (F2 := (10, [.ref x0, .int v5], [(0, .ref x0)], h)) rfl ?_
  obtain ⟨v7, e8, hF⟩ := mm_bind hF
  refine go_gR hX c_57 rfl e8 ?_
  refine go_adv hX c_57 1 (F2 := (14, [.int (ki 1), .ref v7, .int v5], [(0, .ref x0)], h)) rfl ?_
  obtain ⟨v9, e10, hF⟩ := mm_bind hF
  refine go_aR hX c_57 rfl e10 ?_
  obtain ⟨v11, e12, hF⟩ := mm_bind hF
  refine go_gI hX c_57 rfl e12 ?_
  refine go_adv hX c_57 2 (F2 := (20, [.ref x0, .int (v5 + v11)], [(0, .ref x0)], h)) rfl ?_
  obtain ⟨v13, e14, hF⟩ := mm_bind hF
  refine go_gI hX c_57 rfl e14 ?_
  refine go_adv hX c_57 1 (F2 := (24, [.int ((v5 + v11) + v13)], [(0, .ref x0)], h)) rfl ?_
  cases hF
  exact go_iret hX c_57 rfl rfl rfl hQ
theorem c_60 : mm_cd 60 = k_X4_nearestToDo := rfl
def F_X4_nearestToDo_L7 (h : mm_S) : Nat → Nat → Int32 → Int32 → Int32 → Option Int32
  | 0, _, _, _, _ => none
  | n + 1, x0, x1, x2, x3 =>
    if (kb 8) ≤ x3 then
      some x1
    else
      (fx_gR h x0 4 1).bind fun v2 =>
      (fx_aB h v2 x3).bind fun v4 =>
      if v4 ≠ 0 then
        F_X4_nearestToDo_L7 h n x0 x1 x2 (x3 + ki 1)
      else
        (fx_gR h x0 4 0).bind fun v7 =>
        (fx_aI h v7 x3).bind fun v9 =>
        if x2 ≤ v9 then
          F_X4_nearestToDo_L7 h n x0 x1 x2 (x3 + ki 1)
        else
          (fx_gR h x0 4 0).bind fun v12 =>
          (fx_aI h v12 x3).bind fun v14 =>
          F_X4_nearestToDo_L7 h n x0 x3 v14 (x3 + ki 1)
def F_X4_nearestToDo (h : mm_S) (x0 : Nat) : Option Int32 :=
  (F_X4_nearestToDo_L7 h 1000 x0 (ki (-1)) (nI 1000000) (ki 0)).bind fun o16 =>
  some o16
theorem r_X4_nearestToDo_L7 {X : mm_Cl} (hX : mm_mono X) {d c k : Nat} {Q : mm_Re → Prop} {h : mm_S} : ∀ (n : Nat) (x0 : Nat) (x1 : Int32) (x2 : Int32) (x3 : Int32) (o : Int32), F_X4_nearestToDo_L7 h n x0 x1 x2 x3 = some o → (mm_Ex (mm_Run X d) 60 Q (47, [], [(1, .int o)], h) c k) → mm_Ex (mm_Run X d) 60 Q (7, [], [(0, .ref x0), (1, .int x1), (2, .int x2), (3, .int x3)], h) c k := by
  intro n
  induction n with
  | zero => intro x0 x1 x2 x3 o hF; cases hF
  | succ n ih =>
    intro x0 x1 x2 x3 o hF hE
    unfold F_X4_nearestToDo_L7 at hF
    refine go_adv hX c_60 2 (F2 := (10, [.int (kb 8), .int x3], [(0, .ref x0), (1, .int x1), (2, .int x2), (3, .int x3)], h)) rfl ?_
    rcases mm_ite hF with ⟨hc1, hF⟩ | ⟨hc1, hF⟩
    · refine go_ct hX 47 c_60 rfl rfl hc1 ?_
      cases hF
      refine go_ls [(1, .int x1)] ⟨rfl, trivial⟩ ?_
      exact hE
    · refine go_cf hX c_60 rfl (by decide) hc1 ?_
      refine go_adv hX c_60 1 (F2 := (14, [.ref x0], [(0, .ref x0), (1, .int x1), (2, .int x2), (3, .int x3)], h)) rfl ?_
      obtain ⟨v2, e3, hF⟩ := mm_bind hF
      refine go_gR hX c_60 rfl e3 ?_
      refine go_adv hX c_60 1 (F2 := (18, [.int x3, .ref v2], [(0, .ref x0), (1, .int x1), (2, .int x2), (3, .int x3)], h)) rfl ?_
      obtain ⟨v4, e5, hF⟩ := mm_bind hF
      refine go_aB hX c_60 rfl e5 ?_
      rcases mm_ite hF with ⟨hc6, hF⟩ | ⟨hc6, hF⟩
      · refine go_zt hX 41 c_60 rfl rfl hc6 ?_
        refine go_adv hX c_60 1 (F2 := (44, [], [(3, .int (x3 + ki 1)), (0, .ref x0), (1, .int x1), (2, .int x2)], h)) rfl ?_
        refine go_to hX 7 c_60 rfl rfl ?_
        refine go_ls [(0, .ref x0), (1, .int x1), (2, .int x2), (3, .int (x3 + ki 1))] ⟨rfl, ⟨rfl, ⟨rfl, ⟨rfl, trivial⟩⟩⟩⟩ ?_
        exact ih x0 x1 x2 (x3 + ki 1) _ hF hE
      · refine go_zf hX c_60 rfl (by decide) hc6 ?_
        refine go_adv hX c_60 1 (F2 := (23, [.ref x0], [(0, .ref x0), (1, .int x1), (2, .int x2), (3, .int x3)], h)) rfl ?_
        obtain ⟨v7, e8, hF⟩ := mm_bind hF
        refine go_gR hX c_60 rfl e8 ?_
        refine go_adv hX c_60 1 (F2 := (27, [.int x3, .ref v7], [(0, .ref x0), (1, .int x1), (2, .int x2), (3, .int x3)], h)) rfl ?_
        obtain ⟨v9, e10, hF⟩ := mm_bind hF
        refine go_aI hX c_60 rfl e10 ?_
        refine go_adv hX c_60 1 (F2 := (29, [.int x2, .int v9], [(0, .ref x0), (1, .int x1), (2, .int x2), (3, .int x3)], h)) rfl ?_
        rcases mm_ite hF with ⟨hc11, hF⟩ | ⟨hc11, hF⟩
        · refine go_ct hX 41 c_60 rfl rfl hc11 ?_
          refine go_adv hX c_60 1 (F2 := (44, [], [(3, .int (x3 + ki 1)), (0, .ref x0), (1, .int x1), (2, .int x2)], h)) rfl ?_
          refine go_to hX 7 c_60 rfl rfl ?_
          refine go_ls [(0, .ref x0), (1, .int x1), (2, .int x2), (3, .int (x3 + ki 1))] ⟨rfl, ⟨rfl, ⟨rfl, ⟨rfl, trivial⟩⟩⟩⟩ ?_
          exact ih x0 x1 x2 (x3 + ki 1) _ hF hE
        · refine go_cf hX c_60 rfl (by decide) hc11 ?_
          refine go_adv hX c_60 1 (F2 := (33, [.ref x0], [(0, .ref x0), (1, .int x1), (2, .int x2), (3, .int x3)], h)) rfl ?_
          obtain ⟨v12, e13, hF⟩ := mm_bind hF
          refine go_gR hX c_60 rfl e13 ?_
          refine go_adv hX c_60 1 (F2 := (37, [.int x3, .ref v12], [(0, .ref x0), (1, .int x1), (2, .int x2), (3, .int x3)], h)) rfl ?_
          obtain ⟨v14, e15, hF⟩ := mm_bind hF
          refine go_aI hX c_60 rfl e15 ?_
          refine go_adv hX c_60 4 (F2 := (44, [], [(3, .int (x3 + ki 1)), (1, .int x3), (2, .int v14), (0, .ref x0)], h)) rfl ?_
          refine go_to hX 7 c_60 rfl rfl ?_
          refine go_ls [(0, .ref x0), (1, .int x3), (2, .int v14), (3, .int (x3 + ki 1))] ⟨rfl, ⟨rfl, ⟨rfl, ⟨rfl, trivial⟩⟩⟩⟩ ?_
          exact ih x0 x3 v14 (x3 + ki 1) _ hF hE
theorem r_X4_nearestToDo {X : mm_Cl} (hX : mm_mono X) {d c k : Nat} {Q : mm_Re → Prop} {h : mm_S} {x0 : Nat} {o : Int32} (hF : F_X4_nearestToDo h x0 = some o) (hQ : Q (.inl (some (.int o)), h)) : mm_Run X (d + 1) 60 c k [.ref x0] h Q := by
  unfold F_X4_nearestToDo at hF
  refine mm_Run_in (by decide) (by decide) (Nat.le_of_ble_eq_true rfl) ?_
  show mm_Ex (mm_Run X d) 60 Q (0, [], [(0, .ref x0)], h) c k
  refine go_adv hX c_60 6 (F2 := (7, [], [(3, .int (ki 0)), (2, .int (nI 1000000)), (1, .int (ki (-1))), (0, .ref x0)], h)) rfl ?_
  refine go_ls [(0, .ref x0), (1, .int (ki (-1))), (2, .int (nI 1000000)), (3, .int (ki 0))] ⟨rfl, ⟨rfl, ⟨rfl, ⟨rfl, trivial⟩⟩⟩⟩ ?_
  obtain ⟨o16, e17, hF⟩ := mm_bind hF
  refine r_X4_nearestToDo_L7 hX 1000 x0 (ki (-1)) (nI 1000000) (ki 0) o16 e17 ?_
  refine go_adv hX c_60 1 (F2 := (48, [.int o16], [(1, .int o16)], h)) rfl ?_
  cases hF
  exact go_iret hX c_60 rfl rfl rfl hQ
theorem c_62 : mm_cd 62 = k_X4_goOver := rfl
def F_X4_goOver (h : mm_S) (x0 : Nat) (x1 : Nat) (x2 : Int32) (x3 : Nat) (x4 : Int32) (x5 : Nat) : Option mm_S :=
  (fx_is h x3 2).bind fun _ =>
  (F_X2_otherEnd h x3 x4).bind fun v2 =>
  (fx_is h x1 3).bind fun _ =>
  (F_X3_isOpenTo h x1 x2 v2).bind fun v5 =>
  if v5 = 0 then
    some h
  else
    (fx_aI h x5 v2).bind fun v8 =>
    (fx_aI h x5 x4).bind fun v10 =>
    (fx_is h x3 2).bind fun _ =>
    (F_X2_costFor h x3 x2).bind fun v13 =>
    (fx_sI h x5 v2 (if (v10 + v13) < v8 then (v10 + v13) else v8)).bind fun h15 =>
    some h15
theorem r_X4_goOver {X : mm_Cl} (hX : mm_mono X) {d c k : Nat} {Q : mm_Re → Prop} {h : mm_S} {x0 : Nat} {x1 : Nat} {x2 : Int32} {x3 : Nat} {x4 : Int32} {x5 : Nat} {o : mm_S} (hF : F_X4_goOver h x0 x1 x2 x3 x4 x5 = some o) (hQ : Q (.inl none, o)) : mm_Run X (d + 2) 62 c k [.ref x0, .ref x1, .int x2, .ref x3, .int x4, .ref x5] h Q := by
  unfold F_X4_goOver at hF
  refine mm_Run_in (by decide) (by decide) (Nat.le_of_ble_eq_true rfl) ?_
  show mm_Ex (mm_Run X (d + 1)) 62 Q (0, [], [(0, .ref x0), (1, .ref x1), (2, .int x2), (3, .ref x3), (4, .int x4), (5, .ref x5)], h) c k
  refine go_adv hX c_62 2 (F2 := (3, [.int x4, .ref x3], [(0, .ref x0), (1, .ref x1), (2, .int x2), (3, .ref x3), (4, .int x4), (5, .ref x5)], h)) rfl ?_
  obtain ⟨_, e1, hF⟩ := mm_bind hF
  obtain ⟨v2, e3, hF⟩ := mm_bind hF
  refine go_cV hX (As := [.int x4]) (rv := some (.int v2)) (h2 := h) (ci := 2) c_62 rfl (Nat.le_of_ble_eq_true rfl) rfl rfl e1 (by decide) (Nat.le_of_ble_eq_true rfl) (fun Q2 hQ2 => r_X2_otherEnd hX (d := d) e3 hQ2) ?_
  refine go_adv hX c_62 4 (F2 := (12, [.int v2, .int x2, .ref x1], [(6, .int v2), (0, .ref x0), (1, .ref x1), (2, .int x2), (3, .ref x3), (4, .int x4), (5, .ref x5)], h)) rfl ?_
  obtain ⟨_, e4, hF⟩ := mm_bind hF
  obtain ⟨v5, e6, hF⟩ := mm_bind hF
  refine go_cV hX (As := [.int x2, .int v2]) (rv := some (.int v5)) (h2 := h) (ci := 3) c_62 rfl (Nat.le_of_ble_eq_true rfl) rfl rfl e4 (by decide) (Nat.le_of_ble_eq_true rfl) (fun Q2 hQ2 => r_X3_isOpenTo hX (d := d) e6 hQ2) ?_
  rcases mm_ite hF with ⟨hc7, hF⟩ | ⟨hc7, hF⟩
  · refine go_zt hX 42 c_62 rfl rfl hc7 ?_
    cases hF
    exact go_ret hX c_62 rfl rfl hQ
  · refine go_zf hX c_62 rfl (by decide) hc7 ?_
    refine go_adv hX c_62 4 (F2 := (26, [.int v2, .ref x5, .int v2, .ref x5], [(6, .int v2), (0, .ref x0), (1, .ref x1), (2, .int x2), (3, .ref x3), (4, .int x4), (5, .ref x5)], h)) rfl ?_
    obtain ⟨v8, e9, hF⟩ := mm_bind hF
    refine go_aI hX c_62 rfl e9 ?_
    refine go_adv hX c_62 2 (F2 := (31, [.int x4, .ref x5, .int v8, .int v2, .ref x5], [(6, .int v2), (0, .ref x0), (1, .ref x1), (2, .int x2), (3, .ref x3), (4, .int x4), (5, .ref x5)], h)) rfl ?_
    obtain ⟨v10, e11, hF⟩ := mm_bind hF
    refine go_aI hX c_62 rfl e11 ?_
    refine go_adv hX c_62 2 (F2 := (34, [.int x2, .ref x3, .int v10, .int v8, .int v2, .ref x5], [(6, .int v2), (0, .ref x0), (1, .ref x1), (2, .int x2), (3, .ref x3), (4, .int x4), (5, .ref x5)], h)) rfl ?_
    obtain ⟨_, e12, hF⟩ := mm_bind hF
    obtain ⟨v13, e14, hF⟩ := mm_bind hF
    refine go_cV hX (As := [.int x2]) (rv := some (.int v13)) (h2 := h) (ci := 2) c_62 rfl (Nat.le_of_ble_eq_true rfl) rfl rfl e12 (by decide) (Nat.le_of_ble_eq_true rfl) (fun Q2 hQ2 => r_X2_costFor hX (d := d) e14 hQ2) ?_
    refine go_adv hX c_62 1 (F2 := (38, [.int (v10 + v13), .int v8, .int v2, .ref x5], [(6, .int v2), (0, .ref x0), (1, .ref x1), (2, .int x2), (3, .ref x3), (4, .int x4), (5, .ref x5)], h)) rfl ?_
    refine go_min hX c_62 rfl (Nat.le_of_ble_eq_true rfl) ?_
    obtain ⟨h15, e16, hF⟩ := mm_bind hF
    refine go_sI hX c_62 rfl e16 ?_
    cases hF
    exact go_ret hX c_62 rfl rfl hQ
theorem c_61 : mm_cd 61 = k_X4_goOnFrom := rfl
def F_X4_goOnFrom_L3 : Nat → Nat → Nat → Int32 → Int32 → Int32 → mm_S → Option mm_S
  | 0, _, _, _, _, _, _ => none
  | n + 1, x0, x1, x2, x3, x4, h =>
    (fx_gI h x1 3 3).bind fun v1 =>
    if v1 ≤ x4 then
      some h
    else
      (fx_gR h x1 3 2).bind fun v4 =>
      (fx_aR h v4 x4).bind fun v6 =>
      (fx_is h v6 2).bind fun _ =>
      (F_X2_isEnd h v6 x3).bind fun v9 =>
      if v9 = 0 then
        F_X4_goOnFrom_L3 n x0 x1 x2 x3 (x4 + ki 1) h
      else
        (fx_gR h x1 3 2).bind fun v12 =>
        (fx_aR h v12 x4).bind fun v14 =>
        (fx_gR h x0 4 0).bind fun v16 =>
        (fx_is h x0 4).bind fun _ =>
        (F_X4_goOver h x0 x1 x2 v14 x3 v16).bind fun v19 =>
        F_X4_goOnFrom_L3 n x0 x1 x2 x3 (x4 + ki 1) v19
def F_X4_goOnFrom (h : mm_S) (x0 : Nat) (x1 : Nat) (x2 : Int32) (x3 : Int32) : Option mm_S :=
  (F_X4_goOnFrom_L3 1000 x0 x1 x2 x3 (ki 0) h).bind fun o21 =>
  some o21
theorem r_X4_goOnFrom_L3 {X : mm_Cl} (hX : mm_mono X) {d c k : Nat} {Q : mm_Re → Prop} : ∀ (n : Nat) (x0 : Nat) (x1 : Nat) (x2 : Int32) (x3 : Int32) (x4 : Int32) (h : mm_S) (o : mm_S), F_X4_goOnFrom_L3 n x0 x1 x2 x3 x4 h = some o → (mm_Ex (mm_Run X (d + 2)) 61 Q (50, [], [], o) c k) → mm_Ex (mm_Run X (d + 2)) 61 Q (3, [], [(0, .ref x0), (1, .ref x1), (2, .int x2), (3, .int x3), (4, .int x4)], h) c k := by
  intro n
  induction n with
  | zero => intro x0 x1 x2 x3 x4 h o hF; cases hF
  | succ n ih =>
    intro x0 x1 x2 x3 x4 h o hF hE
    unfold F_X4_goOnFrom_L3 at hF
    refine go_adv hX c_61 2 (F2 := (6, [.ref x1, .int x4], [(0, .ref x0), (1, .ref x1), (2, .int x2), (3, .int x3), (4, .int x4)], h)) rfl ?_
    obtain ⟨v1, e2, hF⟩ := mm_bind hF
    refine go_gI hX c_61 rfl e2 ?_
    rcases mm_ite hF with ⟨hc3, hF⟩ | ⟨hc3, hF⟩
    · refine go_ct hX 50 c_61 rfl rfl hc3 ?_
      cases hF
      refine go_ls [] trivial ?_
      exact hE
    · refine go_cf hX c_61 rfl (by decide) hc3 ?_
      refine go_adv hX c_61 1 (F2 := (13, [.ref x1], [(0, .ref x0), (1, .ref x1), (2, .int x2), (3, .int x3), (4, .int x4)], h)) rfl ?_
      obtain ⟨v4, e5, hF⟩ := mm_bind hF
      refine go_gR hX c_61 rfl e5 ?_
      refine go_adv hX c_61 1 (F2 := (18, [.int x4, .ref v4], [(0, .ref x0), (1, .ref x1), (2, .int x2), (3, .int x3), (4, .int x4)], h)) rfl ?_
      obtain ⟨v6, e7, hF⟩ := mm_bind hF
      refine go_aR hX c_61 rfl e7 ?_
      refine go_adv hX c_61 1 (F2 := (20, [.int x3, .ref v6], [(0, .ref x0), (1, .ref x1), (2, .int x2), (3, .int x3), (4, .int x4)], h)) rfl ?_
      obtain ⟨_, e8, hF⟩ := mm_bind hF
      obtain ⟨v9, e10, hF⟩ := mm_bind hF
      refine go_cV hX (As := [.int x3]) (rv := some (.int v9)) (h2 := h) (ci := 2) c_61 rfl (Nat.le_of_ble_eq_true rfl) rfl rfl e8 (by decide) (Nat.le_of_ble_eq_true rfl) (fun Q2 hQ2 => r_X2_isEnd hX (d := (d + 1)) e10 hQ2) ?_
      rcases mm_ite hF with ⟨hc11, hF⟩ | ⟨hc11, hF⟩
      · refine go_zt hX 44 c_61 rfl rfl hc11 ?_
        refine go_adv hX c_61 1 (F2 := (47, [], [(4, .int (x4 + ki 1)), (0, .ref x0), (1, .ref x1), (2, .int x2), (3, .int x3)], h)) rfl ?_
        refine go_to hX 3 c_61 rfl rfl ?_
        refine go_ls [(0, .ref x0), (1, .ref x1), (2, .int x2), (3, .int x3), (4, .int (x4 + ki 1))] ⟨rfl, ⟨rfl, ⟨rfl, ⟨rfl, ⟨rfl, trivial⟩⟩⟩⟩⟩ ?_
        exact ih x0 x1 x2 x3 (x4 + ki 1) h _ hF hE
      · refine go_zf hX c_61 rfl (by decide) hc11 ?_
        refine go_adv hX c_61 4 (F2 := (30, [.ref x1, .int x2, .ref x1, .ref x0], [(0, .ref x0), (1, .ref x1), (2, .int x2), (3, .int x3), (4, .int x4)], h)) rfl ?_
        obtain ⟨v12, e13, hF⟩ := mm_bind hF
        refine go_gR hX c_61 rfl e13 ?_
        refine go_adv hX c_61 1 (F2 := (35, [.int x4, .ref v12, .int x2, .ref x1, .ref x0], [(0, .ref x0), (1, .ref x1), (2, .int x2), (3, .int x3), (4, .int x4)], h)) rfl ?_
        obtain ⟨v14, e15, hF⟩ := mm_bind hF
        refine go_aR hX c_61 rfl e15 ?_
        refine go_adv hX c_61 2 (F2 := (38, [.ref x0, .int x3, .ref v14, .int x2, .ref x1, .ref x0], [(0, .ref x0), (1, .ref x1), (2, .int x2), (3, .int x3), (4, .int x4)], h)) rfl ?_
        obtain ⟨v16, e17, hF⟩ := mm_bind hF
        refine go_gR hX c_61 rfl e17 ?_
        obtain ⟨_, e18, hF⟩ := mm_bind hF
        obtain ⟨v19, e20, hF⟩ := mm_bind hF
        refine go_cV hX (As := [.ref x1, .int x2, .ref v14, .int x3, .ref v16]) (rv := none) (h2 := v19) (ci := 4) c_61 rfl (Nat.le_of_ble_eq_true rfl) rfl rfl e18 (by decide) (Nat.le_of_ble_eq_true rfl) (fun Q2 hQ2 => r_X4_goOver hX (d := d) e20 hQ2) ?_
        refine go_adv hX c_61 1 (F2 := (47, [], [(4, .int (x4 + ki 1)), (0, .ref x0), (1, .ref x1), (2, .int x2), (3, .int x3)], v19)) rfl ?_
        refine go_to hX 3 c_61 rfl rfl ?_
        refine go_ls [(0, .ref x0), (1, .ref x1), (2, .int x2), (3, .int x3), (4, .int (x4 + ki 1))] ⟨rfl, ⟨rfl, ⟨rfl, ⟨rfl, ⟨rfl, trivial⟩⟩⟩⟩⟩ ?_
        exact ih x0 x1 x2 x3 (x4 + ki 1) v19 _ hF hE
theorem r_X4_goOnFrom {X : mm_Cl} (hX : mm_mono X) {d c k : Nat} {Q : mm_Re → Prop} {h : mm_S} {x0 : Nat} {x1 : Nat} {x2 : Int32} {x3 : Int32} {o : mm_S} (hF : F_X4_goOnFrom h x0 x1 x2 x3 = some o) (hQ : Q (.inl none, o)) : mm_Run X (d + 3) 61 c k [.ref x0, .ref x1, .int x2, .int x3] h Q := by
  unfold F_X4_goOnFrom at hF
  refine mm_Run_in (by decide) (by decide) (Nat.le_of_ble_eq_true rfl) ?_
  show mm_Ex (mm_Run X (d + 2)) 61 Q (0, [], [(0, .ref x0), (1, .ref x1), (2, .int x2), (3, .int x3)], h) c k
  refine go_adv hX c_61 2 (F2 := (3, [], [(4, .int (ki 0)), (0, .ref x0), (1, .ref x1), (2, .int x2), (3, .int x3)], h)) rfl ?_
  refine go_ls [(0, .ref x0), (1, .ref x1), (2, .int x2), (3, .int x3), (4, .int (ki 0))] ⟨rfl, ⟨rfl, ⟨rfl, ⟨rfl, ⟨rfl, trivial⟩⟩⟩⟩⟩ ?_
  obtain ⟨o21, e22, hF⟩ := mm_bind hF
  refine r_X4_goOnFrom_L3 hX 1000 x0 x1 x2 x3 (ki 0) h o21 e22 ?_
  cases hF
  exact go_ret hX c_61 rfl rfl hQ
theorem c_59 : mm_cd 59 = k_X4_goNearestFirst := rfl
def F_X4_goNearestFirst_L3 : Nat → Nat → Nat → Int32 → Int32 → Int32 → mm_S → Option mm_S
  | 0, _, _, _, _, _, _ => none
  | n + 1, x0, x1, x2, x3, x4, h =>
    if (kb 8) ≤ x4 then
      some h
    else
      (fx_gR h x0 4 0).bind fun v2 =>
      (fx_sI h v2 x4 (nI 1000000)).bind fun h4 =>
      (fx_gR h4 x0 4 1).bind fun v6 =>
      (fx_sB h4 v6 x4 (ki 0)).bind fun h8 =>
      F_X4_goNearestFirst_L3 n x0 x1 x2 x3 (x4 + ki 1) h8
def F_X4_goNearestFirst_L52 : Nat → Nat → Nat → Int32 → Int32 → mm_S → Option (mm_S ⊕ mm_S)
  | 0, _, _, _, _, _ => none
  | n + 1, x0, x1, x2, x4, h =>
    if (kb 8) ≤ x4 then
      some (.inr h)
    else
      (fx_is h x0 4).bind fun _ =>
      (F_X4_nearestToDo h x0).bind fun v18 =>
      if v18 ≠ (ki (-1)) then
        (fx_gR h x0 4 1).bind fun v21 =>
        (fx_sB h v21 v18 (ki 1)).bind fun h23 =>
        (fx_is h23 x0 4).bind fun _ =>
        (F_X4_goOnFrom h23 x0 x1 x2 v18).bind fun v26 =>
        F_X4_goNearestFirst_L52 n x0 x1 x2 (x4 + ki 1) v26
      else
        some (.inl h)
def F_X4_goNearestFirst_B49 (h : mm_S) (x0 : Nat) (x1 : Nat) (x2 : Int32) : Option mm_S :=
  (F_X4_goNearestFirst_L52 1000 x0 x1 x2 (ki 0) h).bind fun o28 => match o28 with
    | .inl o28r => some o28r
    | .inr o28e =>
      some o28e
def F_X4_goNearestFirst (h : mm_S) (x0 : Nat) (x1 : Nat) (x2 : Int32) (x3 : Int32) : Option mm_S :=
  (F_X4_goNearestFirst_L3 1000 x0 x1 x2 x3 (ki 0) h).bind fun o10 =>
  (fx_is o10 x1 3).bind fun _ =>
  (F_X3_isOpenTo o10 x1 x2 x3).bind fun v13 =>
  if v13 = 0 then
    F_X4_goNearestFirst_B49 o10 x0 x1 x2
  else
    (fx_gR o10 x0 4 0).bind fun v30 =>
    (fx_sI o10 v30 x3 (ki 0)).bind fun h32 =>
    F_X4_goNearestFirst_B49 h32 x0 x1 x2
theorem r_X4_goNearestFirst_L3 {X : mm_Cl} (hX : mm_mono X) {d c k : Nat} {Q : mm_Re → Prop} : ∀ (n : Nat) (x0 : Nat) (x1 : Nat) (x2 : Int32) (x3 : Int32) (x4 : Int32) (h : mm_S) (o : mm_S), F_X4_goNearestFirst_L3 n x0 x1 x2 x3 x4 h = some o → (mm_Ex (mm_Run X (d + 3)) 59 Q (33, [], [(0, .ref x0), (1, .ref x1), (2, .int x2), (3, .int x3)], o) c k) → mm_Ex (mm_Run X (d + 3)) 59 Q (3, [], [(0, .ref x0), (1, .ref x1), (2, .int x2), (3, .int x3), (4, .int x4)], h) c k := by
  intro n
  induction n with
  | zero => intro x0 x1 x2 x3 x4 h o hF; cases hF
  | succ n ih =>
    intro x0 x1 x2 x3 x4 h o hF hE
    unfold F_X4_goNearestFirst_L3 at hF
    refine go_adv hX c_59 2 (F2 := (7, [.int (kb 8), .int x4], [(0, .ref x0), (1, .ref x1), (2, .int x2), (3, .int x3), (4, .int x4)], h)) rfl ?_
    rcases mm_ite hF with ⟨hc1, hF⟩ | ⟨hc1, hF⟩
    · refine go_ct hX 33 c_59 rfl rfl hc1 ?_
      cases hF
      refine go_ls [(0, .ref x0), (1, .ref x1), (2, .int x2), (3, .int x3)] ⟨rfl, ⟨rfl, ⟨rfl, ⟨rfl, trivial⟩⟩⟩⟩ ?_
      exact hE
    · refine go_cf hX c_59 rfl (by decide) hc1 ?_
      refine go_adv hX c_59 1 (F2 := (11, [.ref x0], [(0, .ref x0), (1, .ref x1), (2, .int x2), (3, .int x3), (4, .int x4)], h)) rfl ?_
      obtain ⟨v2, e3, hF⟩ := mm_bind hF
      refine go_gR hX c_59 rfl e3 ?_
      refine go_adv hX c_59 2 (F2 := (18, [.int (nI 1000000), .int x4, .ref v2], [(0, .ref x0), (1, .ref x1), (2, .int x2), (3, .int x3), (4, .int x4)], h)) rfl ?_
      obtain ⟨h4, e5, hF⟩ := mm_bind hF
      refine go_sI hX c_59 rfl e5 ?_
      refine go_adv hX c_59 1 (F2 := (20, [.ref x0], [(0, .ref x0), (1, .ref x1), (2, .int x2), (3, .int x3), (4, .int x4)], h4)) rfl ?_
      obtain ⟨v6, e7, hF⟩ := mm_bind hF
      refine go_gR hX c_59 rfl e7 ?_
      refine go_adv hX c_59 2 (F2 := (26, [.int (ki 0), .int x4, .ref v6], [(0, .ref x0), (1, .ref x1), (2, .int x2), (3, .int x3), (4, .int x4)], h4)) rfl ?_
      obtain ⟨h8, e9, hF⟩ := mm_bind hF
      refine go_sB hX c_59 rfl e9 ?_
      refine go_adv hX c_59 1 (F2 := (30, [], [(4, .int (x4 + ki 1)), (0, .ref x0), (1, .ref x1), (2, .int x2), (3, .int x3)], h8)) rfl ?_
      refine go_to hX 3 c_59 rfl rfl ?_
      refine go_ls [(0, .ref x0), (1, .ref x1), (2, .int x2), (3, .int x3), (4, .int (x4 + ki 1))] ⟨rfl, ⟨rfl, ⟨rfl, ⟨rfl, ⟨rfl, trivial⟩⟩⟩⟩⟩ ?_
      exact ih x0 x1 x2 x3 (x4 + ki 1) h8 _ hF hE
theorem r_X4_goNearestFirst_L52 {X : mm_Cl} (hX : mm_mono X) {d c k : Nat} {Q : mm_Re → Prop} : ∀ (n : Nat) (x0 : Nat) (x1 : Nat) (x2 : Int32) (x4 : Int32) (h : mm_S) (o : (mm_S ⊕ mm_S)), F_X4_goNearestFirst_L52 n x0 x1 x2 x4 h = some o → (∀ r, o = .inl r → Q (.inl none, r)) → (∀ e, o = .inr e → mm_Ex (mm_Run X (d + 3)) 59 Q (94, [], [], e) c k) → mm_Ex (mm_Run X (d + 3)) 59 Q (52, [], [(0, .ref x0), (1, .ref x1), (2, .int x2), (4, .int x4)], h) c k := by
  intro n
  induction n with
  | zero => intro x0 x1 x2 x4 h o hF; cases hF
  | succ n ih =>
    intro x0 x1 x2 x4 h o hF hR hE
    unfold F_X4_goNearestFirst_L52 at hF
    refine go_adv hX c_59 2 (F2 := (56, [.int (kb 8), .int x4], [(0, .ref x0), (1, .ref x1), (2, .int x2), (4, .int x4)], h)) rfl ?_
    rcases mm_ite hF with ⟨hc16, hF⟩ | ⟨hc16, hF⟩
    · refine go_ct hX 94 c_59 rfl rfl hc16 ?_
      cases hF
      refine go_ls [] trivial ?_
      exact hE _ rfl
    · refine go_cf hX c_59 rfl (by decide) hc16 ?_
      refine go_adv hX c_59 1 (F2 := (60, [.ref x0], [(0, .ref x0), (1, .ref x1), (2, .int x2), (4, .int x4)], h)) rfl ?_
      obtain ⟨_, e17, hF⟩ := mm_bind hF
      obtain ⟨v18, e19, hF⟩ := mm_bind hF
      refine go_cV hX (As := []) (rv := some (.int v18)) (h2 := h) (ci := 4) c_59 rfl (Nat.le_of_ble_eq_true rfl) rfl rfl e17 (by decide) (Nat.le_of_ble_eq_true rfl) (fun Q2 hQ2 => r_X4_nearestToDo hX (d := (d + 2)) e19 hQ2) ?_
      refine go_adv hX c_59 3 (F2 := (68, [.int (ki (-1)), .int v18], [(5, .int v18), (0, .ref x0), (1, .ref x1), (2, .int x2), (4, .int x4)], h)) rfl ?_
      rcases mm_ite hF with ⟨hc20, hF⟩ | ⟨hc20, hF⟩
      · refine go_ct hX 72 c_59 rfl rfl hc20 ?_
        refine go_adv hX c_59 1 (F2 := (73, [.ref x0], [(5, .int v18), (0, .ref x0), (1, .ref x1), (2, .int x2), (4, .int x4)], h)) rfl ?_
        obtain ⟨v21, e22, hF⟩ := mm_bind hF
        refine go_gR hX c_59 rfl e22 ?_
        refine go_adv hX c_59 2 (F2 := (79, [.int (ki 1), .int v18, .ref v21], [(5, .int v18), (0, .ref x0), (1, .ref x1), (2, .int x2), (4, .int x4)], h)) rfl ?_
        obtain ⟨h23, e24, hF⟩ := mm_bind hF
        refine go_sB hX c_59 rfl e24 ?_
        refine go_adv hX c_59 4 (F2 := (85, [.int v18, .int x2, .ref x1, .ref x0], [(5, .int v18), (0, .ref x0), (1, .ref x1), (2, .int x2), (4, .int x4)], h23)) rfl ?_
        obtain ⟨_, e25, hF⟩ := mm_bind hF
        obtain ⟨v26, e27, hF⟩ := mm_bind hF
        refine go_cV hX (As := [.ref x1, .int x2, .int v18]) (rv := none) (h2 := v26) (ci := 4) c_59 rfl (Nat.le_of_ble_eq_true rfl) rfl rfl e25 (by decide) (Nat.le_of_ble_eq_true rfl) (fun Q2 hQ2 => r_X4_goOnFrom hX (d := d) e27 hQ2) ?_
        refine go_adv hX c_59 1 (F2 := (91, [], [(4, .int (x4 + ki 1)), (5, .int v18), (0, .ref x0), (1, .ref x1), (2, .int x2)], v26)) rfl ?_
        refine go_to hX 52 c_59 rfl rfl ?_
        refine go_ls [(0, .ref x0), (1, .ref x1), (2, .int x2), (4, .int (x4 + ki 1))] ⟨rfl, ⟨rfl, ⟨rfl, ⟨rfl, trivial⟩⟩⟩⟩ ?_
        exact ih x0 x1 x2 (x4 + ki 1) v26 _ hF hR hE
      · refine go_cf hX c_59 rfl (by decide) hc20 ?_
        cases hF
        have hQ := hR _ rfl
        exact go_ret hX c_59 rfl rfl hQ
theorem r_X4_goNearestFirst_B49 {X : mm_Cl} (hX : mm_mono X) {d c k : Nat} {Q : mm_Re → Prop} {h : mm_S} {x0 : Nat} {x1 : Nat} {x2 : Int32} {o : mm_S} (hF : F_X4_goNearestFirst_B49 h x0 x1 x2 = some o) (hQ : Q (.inl none, o)) : mm_Ex (mm_Run X (d + 3)) 59 Q (49, [], [(0, .ref x0), (1, .ref x1), (2, .int x2)], h) c k := by
  unfold F_X4_goNearestFirst_B49 at hF
  refine go_adv hX c_59 2 (F2 := (52, [], [(4, .int (ki 0)), (0, .ref x0), (1, .ref x1), (2, .int x2)], h)) rfl ?_
  refine go_ls [(0, .ref x0), (1, .ref x1), (2, .int x2), (4, .int (ki 0))] ⟨rfl, ⟨rfl, ⟨rfl, ⟨rfl, trivial⟩⟩⟩⟩ ?_
  obtain ⟨o28, e29, hF⟩ := mm_bind hF
  refine r_X4_goNearestFirst_L52 hX 1000 x0 x1 x2 (ki 0) h o28 e29 ?_ ?_
  · intro o28r hr
    subst hr
    dsimp only at hF
    cases hF
    exact hQ
  · intro o28e he
    subst he
    dsimp only at hF
    cases hF
    exact go_ret hX c_59 rfl rfl hQ
theorem r_X4_goNearestFirst {X : mm_Cl} (hX : mm_mono X) {d c k : Nat} {Q : mm_Re → Prop} {h : mm_S} {x0 : Nat} {x1 : Nat} {x2 : Int32} {x3 : Int32} {o : mm_S} (hF : F_X4_goNearestFirst h x0 x1 x2 x3 = some o) (hQ : Q (.inl none, o)) : mm_Run X (d + 4) 59 c k [.ref x0, .ref x1, .int x2, .int x3] h Q := by
  unfold F_X4_goNearestFirst at hF
  refine mm_Run_in (by decide) (by decide) (Nat.le_of_ble_eq_true rfl) ?_
  show mm_Ex (mm_Run X (d + 3)) 59 Q (0, [], [(0, .ref x0), (1, .ref x1), (2, .int x2), (3, .int x3)], h) c k
  refine go_adv hX c_59 2 (F2 := (3, [], [(4, .int (ki 0)), (0, .ref x0), (1, .ref x1), (2, .int x2), (3, .int x3)], h)) rfl ?_
  refine go_ls [(0, .ref x0), (1, .ref x1), (2, .int x2), (3, .int x3), (4, .int (ki 0))] ⟨rfl, ⟨rfl, ⟨rfl, ⟨rfl, ⟨rfl, trivial⟩⟩⟩⟩⟩ ?_
  obtain ⟨o10, e11, hF⟩ := mm_bind hF
  refine r_X4_goNearestFirst_L3 hX 1000 x0 x1 x2 x3 (ki 0) h o10 e11 ?_
  refine go_adv hX c_59 3 (F2 := (36, [.int x3, .int x2, .ref x1], [(0, .ref x0), (1, .ref x1), (2, .int x2), (3, .int x3)], o10)) rfl ?_
  obtain ⟨_, e12, hF⟩ := mm_bind hF
  obtain ⟨v13, e14, hF⟩ := mm_bind hF
  refine go_cV hX (As := [.int x2, .int x3]) (rv := some (.int v13)) (h2 := o10) (ci := 3) c_59 rfl (Nat.le_of_ble_eq_true rfl) rfl rfl e12 (by decide) (Nat.le_of_ble_eq_true rfl) (fun Q2 hQ2 => r_X3_isOpenTo hX (d := (d + 2)) e14 hQ2) ?_
  rcases mm_ite hF with ⟨hc15, hF⟩ | ⟨hc15, hF⟩
  · refine go_zt hX 49 c_59 rfl rfl hc15 ?_
    refine go_ls [(0, .ref x0), (1, .ref x1), (2, .int x2)] ⟨rfl, ⟨rfl, ⟨rfl, trivial⟩⟩⟩ ?_
    exact r_X4_goNearestFirst_B49 hX hF hQ
  · refine go_zf hX c_59 rfl (by decide) hc15 ?_
    refine go_adv hX c_59 1 (F2 := (43, [.ref x0], [(0, .ref x0), (1, .ref x1), (2, .int x2), (3, .int x3)], o10)) rfl ?_
    obtain ⟨v30, e31, hF⟩ := mm_bind hF
    refine go_gR hX c_59 rfl e31 ?_
    refine go_adv hX c_59 2 (F2 := (48, [.int (ki 0), .int x3, .ref v30], [(0, .ref x0), (1, .ref x1), (2, .int x2), (3, .int x3)], o10)) rfl ?_
    obtain ⟨h32, e33, hF⟩ := mm_bind hF
    refine go_sI hX c_59 rfl e33 ?_
    refine go_ls [(0, .ref x0), (1, .ref x1), (2, .int x2)] ⟨rfl, ⟨rfl, ⟨rfl, trivial⟩⟩⟩ ?_
    exact r_X4_goNearestFirst_B49 hX hF hQ
theorem c_64 : mm_cd 64 = k_X4_allowOver := rfl
def F_X4_allowOver_L10 : Nat → Nat → Int32 → Int32 → Int32 → mm_S → Option mm_S
  | 0, _, _, _, _, _ => none
  | n + 1, x0, x1, x2, x3, h =>
    if (kb 8) ≤ x3 then
      some h
    else
      (fx_gR h x0 4 3).bind fun v3 =>
      (fx_aR h v3 x2).bind fun v5 =>
      (fx_aI h v5 x1).bind fun v7 =>
      (fx_gR h x0 4 3).bind fun v9 =>
      (fx_aR h v9 x1).bind fun v11 =>
      (fx_aI h v11 x3).bind fun v13 =>
      (fx_gR h x0 4 3).bind fun v15 =>
      (fx_aR h v15 x2).bind fun v17 =>
      (fx_gR h x0 4 3).bind fun v19 =>
      (fx_aR h v19 x2).bind fun v21 =>
      (fx_aI h v21 x3).bind fun v23 =>
      (fx_sI h v17 x3 (if (v7 + v13) < v23 then (v7 + v13) else v23)).bind fun h25 =>
      F_X4_allowOver_L10 n x0 x1 x2 (x3 + ki 1) h25
def F_X4_allowOver_L2 : Nat → Nat → Int32 → Int32 → mm_S → Option mm_S
  | 0, _, _, _, _ => none
  | n + 1, x0, x1, x2, h =>
    if (kb 8) ≤ x2 then
      some h
    else
      (F_X4_allowOver_L10 1000 x0 x1 x2 (ki 0) h).bind fun o27 =>
      F_X4_allowOver_L2 n x0 x1 (x2 + ki 1) o27
def F_X4_allowOver (h : mm_S) (x0 : Nat) (x1 : Int32) : Option mm_S :=
  (F_X4_allowOver_L2 1000 x0 x1 (ki 0) h).bind fun o29 =>
  some o29
theorem r_X4_allowOver_L10 {X : mm_Cl} (hX : mm_mono X) {d c k : Nat} {Q : mm_Re → Prop} : ∀ (n : Nat) (x0 : Nat) (x1 : Int32) (x2 : Int32) (x3 : Int32) (h : mm_S) (o : mm_S), F_X4_allowOver_L10 n x0 x1 x2 x3 h = some o → (mm_Ex (mm_Run X d) 64 Q (62, [], [(0, .ref x0), (1, .int x1), (2, .int x2)], o) c k) → mm_Ex (mm_Run X d) 64 Q (10, [], [(0, .ref x0), (1, .int x1), (2, .int x2), (3, .int x3)], h) c k := by
  intro n
  induction n with
  | zero => intro x0 x1 x2 x3 h o hF; cases hF
  | succ n ih =>
    intro x0 x1 x2 x3 h o hF hE
    unfold F_X4_allowOver_L10 at hF
    refine go_adv hX c_64 2 (F2 := (13, [.int (kb 8), .int x3], [(0, .ref x0), (1, .int x1), (2, .int x2), (3, .int x3)], h)) rfl ?_
    rcases mm_ite hF with ⟨hc2, hF⟩ | ⟨hc2, hF⟩
    · refine go_ct hX 62 c_64 rfl rfl hc2 ?_
      cases hF
      refine go_ls [(0, .ref x0), (1, .int x1), (2, .int x2)] ⟨rfl, ⟨rfl, ⟨rfl, trivial⟩⟩⟩ ?_
      exact hE
    · refine go_cf hX c_64 rfl (by decide) hc2 ?_
      refine go_adv hX c_64 1 (F2 := (17, [.ref x0], [(0, .ref x0), (1, .int x1), (2, .int x2), (3, .int x3)], h)) rfl ?_
      obtain ⟨v3, e4, hF⟩ := mm_bind hF
      refine go_gR hX c_64 rfl e4 ?_
      refine go_adv hX c_64 1 (F2 := (21, [.int x2, .ref v3], [(0, .ref x0), (1, .int x1), (2, .int x2), (3, .int x3)], h)) rfl ?_
      obtain ⟨v5, e6, hF⟩ := mm_bind hF
      refine go_aR hX c_64 rfl e6 ?_
      refine go_adv hX c_64 1 (F2 := (23, [.int x1, .ref v5], [(0, .ref x0), (1, .int x1), (2, .int x2), (3, .int x3)], h)) rfl ?_
      obtain ⟨v7, e8, hF⟩ := mm_bind hF
      refine go_aI hX c_64 rfl e8 ?_
      refine go_adv hX c_64 1 (F2 := (25, [.ref x0, .int v7], [(0, .ref x0), (1, .int x1), (2, .int x2), (3, .int x3)], h)) rfl ?_
      obtain ⟨v9, e10, hF⟩ := mm_bind hF
      refine go_gR hX c_64 rfl e10 ?_
      refine go_adv hX c_64 1 (F2 := (29, [.int x1, .ref v9, .int v7], [(0, .ref x0), (1, .int x1), (2, .int x2), (3, .int x3)], h)) rfl ?_
      obtain ⟨v11, e12, hF⟩ := mm_bind hF
      refine go_aR hX c_64 rfl e12 ?_
      refine go_adv hX c_64 1 (F2 := (31, [.int x3, .ref v11, .int v7], [(0, .ref x0), (1, .int x1), (2, .int x2), (3, .int x3)], h)) rfl ?_
      obtain ⟨v13, e14, hF⟩ := mm_bind hF
      refine go_aI hX c_64 rfl e14 ?_
      refine go_adv hX c_64 3 (F2 := (36, [.ref x0], [(4, .int (v7 + v13)), (0, .ref x0), (1, .int x1), (2, .int x2), (3, .int x3)], h)) rfl ?_
      obtain ⟨v15, e16, hF⟩ := mm_bind hF
      refine go_gR hX c_64 rfl e16 ?_
      refine go_adv hX c_64 1 (F2 := (40, [.int x2, .ref v15], [(4, .int (v7 + v13)), (0, .ref x0), (1, .int x1), (2, .int x2), (3, .int x3)], h)) rfl ?_
      obtain ⟨v17, e18, hF⟩ := mm_bind hF
      refine go_aR hX c_64 rfl e18 ?_
      refine go_adv hX c_64 2 (F2 := (43, [.ref x0, .int x3, .ref v17], [(4, .int (v7 + v13)), (0, .ref x0), (1, .int x1), (2, .int x2), (3, .int x3)], h)) rfl ?_
      obtain ⟨v19, e20, hF⟩ := mm_bind hF
      refine go_gR hX c_64 rfl e20 ?_
      refine go_adv hX c_64 1 (F2 := (47, [.int x2, .ref v19, .int x3, .ref v17], [(4, .int (v7 + v13)), (0, .ref x0), (1, .int x1), (2, .int x2), (3, .int x3)], h)) rfl ?_
      obtain ⟨v21, e22, hF⟩ := mm_bind hF
      refine go_aR hX c_64 rfl e22 ?_
      refine go_adv hX c_64 1 (F2 := (49, [.int x3, .ref v21, .int x3, .ref v17], [(4, .int (v7 + v13)), (0, .ref x0), (1, .int x1), (2, .int x2), (3, .int x3)], h)) rfl ?_
      obtain ⟨v23, e24, hF⟩ := mm_bind hF
      refine go_aI hX c_64 rfl e24 ?_
      refine go_adv hX c_64 1 (F2 := (52, [.int (v7 + v13), .int v23, .int x3, .ref v17], [(4, .int (v7 + v13)), (0, .ref x0), (1, .int x1), (2, .int x2), (3, .int x3)], h)) rfl ?_
      refine go_min hX c_64 rfl (Nat.le_of_ble_eq_true rfl) ?_
      obtain ⟨h25, e26, hF⟩ := mm_bind hF
      refine go_sI hX c_64 rfl e26 ?_
      refine go_adv hX c_64 1 (F2 := (59, [], [(3, .int (x3 + ki 1)), (4, .int (v7 + v13)), (0, .ref x0), (1, .int x1), (2, .int x2)], h25)) rfl ?_
      refine go_to hX 10 c_64 rfl rfl ?_
      refine go_ls [(0, .ref x0), (1, .int x1), (2, .int x2), (3, .int (x3 + ki 1))] ⟨rfl, ⟨rfl, ⟨rfl, ⟨rfl, trivial⟩⟩⟩⟩ ?_
      exact ih x0 x1 x2 (x3 + ki 1) h25 _ hF hE
theorem r_X4_allowOver_L2 {X : mm_Cl} (hX : mm_mono X) {d c k : Nat} {Q : mm_Re → Prop} : ∀ (n : Nat) (x0 : Nat) (x1 : Int32) (x2 : Int32) (h : mm_S) (o : mm_S), F_X4_allowOver_L2 n x0 x1 x2 h = some o → (mm_Ex (mm_Run X d) 64 Q (68, [], [], o) c k) → mm_Ex (mm_Run X d) 64 Q (2, [], [(0, .ref x0), (1, .int x1), (2, .int x2)], h) c k := by
  intro n
  induction n with
  | zero => intro x0 x1 x2 h o hF; cases hF
  | succ n ih =>
    intro x0 x1 x2 h o hF hE
    unfold F_X4_allowOver_L2 at hF
    refine go_adv hX c_64 2 (F2 := (5, [.int (kb 8), .int x2], [(0, .ref x0), (1, .int x1), (2, .int x2)], h)) rfl ?_
    rcases mm_ite hF with ⟨hc1, hF⟩ | ⟨hc1, hF⟩
    · refine go_ct hX 68 c_64 rfl rfl hc1 ?_
      cases hF
      refine go_ls [] trivial ?_
      exact hE
    · refine go_cf hX c_64 rfl (by decide) hc1 ?_
      refine go_adv hX c_64 2 (F2 := (10, [], [(3, .int (ki 0)), (0, .ref x0), (1, .int x1), (2, .int x2)], h)) rfl ?_
      refine go_ls [(0, .ref x0), (1, .int x1), (2, .int x2), (3, .int (ki 0))] ⟨rfl, ⟨rfl, ⟨rfl, ⟨rfl, trivial⟩⟩⟩⟩ ?_
      obtain ⟨o27, e28, hF⟩ := mm_bind hF
      refine r_X4_allowOver_L10 hX 1000 x0 x1 x2 (ki 0) h o27 e28 ?_
      refine go_adv hX c_64 1 (F2 := (65, [], [(2, .int (x2 + ki 1)), (0, .ref x0), (1, .int x1)], o27)) rfl ?_
      refine go_to hX 2 c_64 rfl rfl ?_
      refine go_ls [(0, .ref x0), (1, .int x1), (2, .int (x2 + ki 1))] ⟨rfl, ⟨rfl, ⟨rfl, trivial⟩⟩⟩ ?_
      exact ih x0 x1 (x2 + ki 1) o27 _ hF hE
theorem r_X4_allowOver {X : mm_Cl} (hX : mm_mono X) {d c k : Nat} {Q : mm_Re → Prop} {h : mm_S} {x0 : Nat} {x1 : Int32} {o : mm_S} (hF : F_X4_allowOver h x0 x1 = some o) (hQ : Q (.inl none, o)) : mm_Run X (d + 1) 64 c k [.ref x0, .int x1] h Q := by
  unfold F_X4_allowOver at hF
  refine mm_Run_in (by decide) (by decide) (Nat.le_of_ble_eq_true rfl) ?_
  show mm_Ex (mm_Run X d) 64 Q (0, [], [(0, .ref x0), (1, .int x1)], h) c k
  refine go_adv hX c_64 2 (F2 := (2, [], [(2, .int (ki 0)), (0, .ref x0), (1, .int x1)], h)) rfl ?_
  refine go_ls [(0, .ref x0), (1, .int x1), (2, .int (ki 0))] ⟨rfl, ⟨rfl, ⟨rfl, trivial⟩⟩⟩ ?_
  obtain ⟨o29, e30, hF⟩ := mm_bind hF
  refine r_X4_allowOver_L2 hX 1000 x0 x1 (ki 0) h o29 e30 ?_
  cases hF
  exact go_ret hX c_64 rfl rfl hQ
theorem c_63 : mm_cd 63 = k_X4_goOverMoreAndMore := rfl
def F_X4_goOverMoreAndMore_L10 : Nat → Nat → Nat → Int32 → Int32 → mm_S → Option mm_S
  | 0, _, _, _, _, _ => none
  | n + 1, x0, x1, x2, x3, h =>
    if (kb 8) ≤ x3 then
      some h
    else
      (fx_gR h x0 4 3).bind fun v3 =>
      (fx_aR h v3 x2).bind fun v5 =>
      if x2 ≠ x3 then
        (fx_sI h v5 x3 (nI 1000000)).bind fun h8 =>
        F_X4_goOverMoreAndMore_L10 n x0 x1 x2 (x3 + ki 1) h8
      else
        (fx_sI h v5 x3 (ki 0)).bind fun h10 =>
        F_X4_goOverMoreAndMore_L10 n x0 x1 x2 (x3 + ki 1) h10
def F_X4_goOverMoreAndMore_L2 : Nat → Nat → Nat → Int32 → mm_S → Option mm_S
  | 0, _, _, _, _ => none
  | n + 1, x0, x1, x2, h =>
    if (kb 8) ≤ x2 then
      some h
    else
      (F_X4_goOverMoreAndMore_L10 1000 x0 x1 x2 (ki 0) h).bind fun o12 =>
      F_X4_goOverMoreAndMore_L2 n x0 x1 (x2 + ki 1) o12
def F_X4_goOverMoreAndMore_L49 : Nat → Nat → Nat → Int32 → mm_S → Option mm_S
  | 0, _, _, _, _ => none
  | n + 1, x0, x1, x2, h =>
    (fx_gI h x1 3 3).bind fun v16 =>
    if v16 ≤ x2 then
      some h
    else
      (fx_gR h x1 3 2).bind fun v19 =>
      (fx_aR h v19 x2).bind fun v21 =>
      (fx_gR h x0 4 3).bind fun v23 =>
      (fx_gI h v21 2 0).bind fun v25 =>
      (fx_aR h v23 v25).bind fun v27 =>
      (fx_gI h v21 2 1).bind fun v29 =>
      (fx_gI h v21 2 2).bind fun v31 =>
      (fx_sI h v27 v29 v31).bind fun h33 =>
      (fx_gR h33 x0 4 3).bind fun v35 =>
      (fx_gI h33 v21 2 1).bind fun v37 =>
      (fx_aR h33 v35 v37).bind fun v39 =>
      (fx_gI h33 v21 2 0).bind fun v41 =>
      (fx_gI h33 v21 2 2).bind fun v43 =>
      (fx_sI h33 v39 v41 v43).bind fun h45 =>
      F_X4_goOverMoreAndMore_L49 n x0 x1 (x2 + ki 1) h45
def F_X4_goOverMoreAndMore_L108 : Nat → Nat → Int32 → mm_S → Option mm_S
  | 0, _, _, _ => none
  | n + 1, x0, x2, h =>
    if (kb 8) ≤ x2 then
      some h
    else
      (fx_is h x0 4).bind fun _ =>
      (F_X4_allowOver h x0 x2).bind fun v51 =>
      F_X4_goOverMoreAndMore_L108 n x0 (x2 + ki 1) v51
def F_X4_goOverMoreAndMore (h : mm_S) (x0 : Nat) (x1 : Nat) : Option mm_S :=
  (F_X4_goOverMoreAndMore_L2 1000 x0 x1 (ki 0) h).bind fun o14 =>
  (F_X4_goOverMoreAndMore_L49 1000 x0 x1 (ki 0) o14).bind fun o47 =>
  (F_X4_goOverMoreAndMore_L108 1000 x0 (ki 0) o47).bind fun o53 =>
  some o53
theorem r_X4_goOverMoreAndMore_L10 {X : mm_Cl} (hX : mm_mono X) {d c k : Nat} {Q : mm_Re → Prop} : ∀ (n : Nat) (x0 : Nat) (x1 : Nat) (x2 : Int32) (x3 : Int32) (h : mm_S) (o : mm_S), F_X4_goOverMoreAndMore_L10 n x0 x1 x2 x3 h = some o → (mm_Ex (mm_Run X (d + 1)) 63 Q (41, [], [(0, .ref x0), (1, .ref x1), (2, .int x2)], o) c k) → mm_Ex (mm_Run X (d + 1)) 63 Q (10, [], [(0, .ref x0), (1, .ref x1), (2, .int x2), (3, .int x3)], h) c k := by
  intro n
  induction n with
  | zero => intro x0 x1 x2 x3 h o hF; cases hF
  | succ n ih =>
    intro x0 x1 x2 x3 h o hF hE
    unfold F_X4_goOverMoreAndMore_L10 at hF
    refine go_adv hX c_63 2 (F2 := (13, [.int (kb 8), .int x3], [(0, .ref x0), (1, .ref x1), (2, .int x2), (3, .int x3)], h)) rfl ?_
    rcases mm_ite hF with ⟨hc2, hF⟩ | ⟨hc2, hF⟩
    · refine go_ct hX 41 c_63 rfl rfl hc2 ?_
      cases hF
      refine go_ls [(0, .ref x0), (1, .ref x1), (2, .int x2)] ⟨rfl, ⟨rfl, ⟨rfl, trivial⟩⟩⟩ ?_
      exact hE
    · refine go_cf hX c_63 rfl (by decide) hc2 ?_
      refine go_adv hX c_63 1 (F2 := (17, [.ref x0], [(0, .ref x0), (1, .ref x1), (2, .int x2), (3, .int x3)], h)) rfl ?_
      obtain ⟨v3, e4, hF⟩ := mm_bind hF
      refine go_gR hX c_63 rfl e4 ?_
      refine go_adv hX c_63 1 (F2 := (21, [.int x2, .ref v3], [(0, .ref x0), (1, .ref x1), (2, .int x2), (3, .int x3)], h)) rfl ?_
      obtain ⟨v5, e6, hF⟩ := mm_bind hF
      refine go_aR hX c_63 rfl e6 ?_
      refine go_adv hX c_63 3 (F2 := (25, [.int x3, .int x2, .int x3, .ref v5], [(0, .ref x0), (1, .ref x1), (2, .int x2), (3, .int x3)], h)) rfl ?_
      rcases mm_ite hF with ⟨hc7, hF⟩ | ⟨hc7, hF⟩
      · refine go_ct hX 32 c_63 rfl rfl hc7 ?_
        refine go_adv hX c_63 1 (F2 := (34, [.int (nI 1000000), .int x3, .ref v5], [(0, .ref x0), (1, .ref x1), (2, .int x2), (3, .int x3)], h)) rfl ?_
        obtain ⟨h8, e9, hF⟩ := mm_bind hF
        refine go_sI hX c_63 rfl e9 ?_
        refine go_adv hX c_63 1 (F2 := (38, [], [(3, .int (x3 + ki 1)), (0, .ref x0), (1, .ref x1), (2, .int x2)], h8)) rfl ?_
        refine go_to hX 10 c_63 rfl rfl ?_
        refine go_ls [(0, .ref x0), (1, .ref x1), (2, .int x2), (3, .int (x3 + ki 1))] ⟨rfl, ⟨rfl, ⟨rfl, ⟨rfl, trivial⟩⟩⟩⟩ ?_
        exact ih x0 x1 x2 (x3 + ki 1) h8 _ hF hE
      · refine go_cf hX c_63 rfl (by decide) hc7 ?_
        refine go_adv hX c_63 1 (F2 := (29, [.int (ki 0), .int x3, .ref v5], [(0, .ref x0), (1, .ref x1), (2, .int x2), (3, .int x3)], h)) rfl ?_
        refine go_to hX 34 c_63 rfl rfl ?_
        obtain ⟨h10, e11, hF⟩ := mm_bind hF
        refine go_sI hX c_63 rfl e11 ?_
        refine go_adv hX c_63 1 (F2 := (38, [], [(3, .int (x3 + ki 1)), (0, .ref x0), (1, .ref x1), (2, .int x2)], h10)) rfl ?_
        refine go_to hX 10 c_63 rfl rfl ?_
        refine go_ls [(0, .ref x0), (1, .ref x1), (2, .int x2), (3, .int (x3 + ki 1))] ⟨rfl, ⟨rfl, ⟨rfl, ⟨rfl, trivial⟩⟩⟩⟩ ?_
        exact ih x0 x1 x2 (x3 + ki 1) h10 _ hF hE
theorem r_X4_goOverMoreAndMore_L2 {X : mm_Cl} (hX : mm_mono X) {d c k : Nat} {Q : mm_Re → Prop} : ∀ (n : Nat) (x0 : Nat) (x1 : Nat) (x2 : Int32) (h : mm_S) (o : mm_S), F_X4_goOverMoreAndMore_L2 n x0 x1 x2 h = some o → (mm_Ex (mm_Run X (d + 1)) 63 Q (47, [], [(0, .ref x0), (1, .ref x1)], o) c k) → mm_Ex (mm_Run X (d + 1)) 63 Q (2, [], [(0, .ref x0), (1, .ref x1), (2, .int x2)], h) c k := by
  intro n
  induction n with
  | zero => intro x0 x1 x2 h o hF; cases hF
  | succ n ih =>
    intro x0 x1 x2 h o hF hE
    unfold F_X4_goOverMoreAndMore_L2 at hF
    refine go_adv hX c_63 2 (F2 := (5, [.int (kb 8), .int x2], [(0, .ref x0), (1, .ref x1), (2, .int x2)], h)) rfl ?_
    rcases mm_ite hF with ⟨hc1, hF⟩ | ⟨hc1, hF⟩
    · refine go_ct hX 47 c_63 rfl rfl hc1 ?_
      cases hF
      refine go_ls [(0, .ref x0), (1, .ref x1)] ⟨rfl, ⟨rfl, trivial⟩⟩ ?_
      exact hE
    · refine go_cf hX c_63 rfl (by decide) hc1 ?_
      refine go_adv hX c_63 2 (F2 := (10, [], [(3, .int (ki 0)), (0, .ref x0), (1, .ref x1), (2, .int x2)], h)) rfl ?_
      refine go_ls [(0, .ref x0), (1, .ref x1), (2, .int x2), (3, .int (ki 0))] ⟨rfl, ⟨rfl, ⟨rfl, ⟨rfl, trivial⟩⟩⟩⟩ ?_
      obtain ⟨o12, e13, hF⟩ := mm_bind hF
      refine r_X4_goOverMoreAndMore_L10 hX 1000 x0 x1 x2 (ki 0) h o12 e13 ?_
      refine go_adv hX c_63 1 (F2 := (44, [], [(2, .int (x2 + ki 1)), (0, .ref x0), (1, .ref x1)], o12)) rfl ?_
      refine go_to hX 2 c_63 rfl rfl ?_
      refine go_ls [(0, .ref x0), (1, .ref x1), (2, .int (x2 + ki 1))] ⟨rfl, ⟨rfl, ⟨rfl, trivial⟩⟩⟩ ?_
      exact ih x0 x1 (x2 + ki 1) o12 _ hF hE
theorem r_X4_goOverMoreAndMore_L49 {X : mm_Cl} (hX : mm_mono X) {d c k : Nat} {Q : mm_Re → Prop} : ∀ (n : Nat) (x0 : Nat) (x1 : Nat) (x2 : Int32) (h : mm_S) (o : mm_S), F_X4_goOverMoreAndMore_L49 n x0 x1 x2 h = some o → (mm_Ex (mm_Run X (d + 1)) 63 Q (106, [], [(0, .ref x0)], o) c k) → mm_Ex (mm_Run X (d + 1)) 63 Q (49, [], [(0, .ref x0), (1, .ref x1), (2, .int x2)], h) c k := by
  intro n
  induction n with
  | zero => intro x0 x1 x2 h o hF; cases hF
  | succ n ih =>
    intro x0 x1 x2 h o hF hE
    unfold F_X4_goOverMoreAndMore_L49 at hF
    refine go_adv hX c_63 2 (F2 := (51, [.ref x1, .int x2], [(0, .ref x0), (1, .ref x1), (2, .int x2)], h)) rfl ?_
    obtain ⟨v16, e17, hF⟩ := mm_bind hF
    refine go_gI hX c_63 rfl e17 ?_
    rcases mm_ite hF with ⟨hc18, hF⟩ | ⟨hc18, hF⟩
    · refine go_ct hX 106 c_63 rfl rfl hc18 ?_
      cases hF
      refine go_ls [(0, .ref x0)] ⟨rfl, trivial⟩ ?_
      exact hE
    · refine go_cf hX c_63 rfl (by decide) hc18 ?_
      refine go_adv hX c_63 1 (F2 := (58, [.ref x1], [(0, .ref x0), (1, .ref x1), (2, .int x2)], h)) rfl ?_
      obtain ⟨v19, e20, hF⟩ := mm_bind hF
      refine go_gR hX c_63 rfl e20 ?_
      refine go_adv hX c_63 1 (F2 := (62, [.int x2, .ref v19], [(0, .ref x0), (1, .ref x1), (2, .int x2)], h)) rfl ?_
      obtain ⟨v21, e22, hF⟩ := mm_bind hF
      refine go_aR hX c_63 rfl e22 ?_
      refine go_adv hX c_63 2 (F2 := (65, [.ref x0], [(3, .ref v21), (0, .ref x0), (1, .ref x1), (2, .int x2)], h)) rfl ?_
      obtain ⟨v23, e24, hF⟩ := mm_bind hF
      refine go_gR hX c_63 rfl e24 ?_
      refine go_adv hX c_63 1 (F2 := (69, [.ref v21, .ref v23], [(3, .ref v21), (0, .ref x0), (1, .ref x1), (2, .int x2)], h)) rfl ?_
      obtain ⟨v25, e26, hF⟩ := mm_bind hF
      refine go_gI hX c_63 rfl e26 ?_
      obtain ⟨v27, e28, hF⟩ := mm_bind hF
      refine go_aR hX c_63 rfl e28 ?_
      refine go_adv hX c_63 1 (F2 := (74, [.ref v21, .ref v27], [(3, .ref v21), (0, .ref x0), (1, .ref x1), (2, .int x2)], h)) rfl ?_
      obtain ⟨v29, e30, hF⟩ := mm_bind hF
      refine go_gI hX c_63 rfl e30 ?_
      refine go_adv hX c_63 1 (F2 := (78, [.ref v21, .int v29, .ref v27], [(3, .ref v21), (0, .ref x0), (1, .ref x1), (2, .int x2)], h)) rfl ?_
      obtain ⟨v31, e32, hF⟩ := mm_bind hF
      refine go_gI hX c_63 rfl e32 ?_
      obtain ⟨h33, e34, hF⟩ := mm_bind hF
      refine go_sI hX c_63 rfl e34 ?_
      refine go_adv hX c_63 1 (F2 := (83, [.ref x0], [(3, .ref v21), (0, .ref x0), (1, .ref x1), (2, .int x2)], h33)) rfl ?_
      obtain ⟨v35, e36, hF⟩ := mm_bind hF
      refine go_gR hX c_63 rfl e36 ?_
      refine go_adv hX c_63 1 (F2 := (87, [.ref v21, .ref v35], [(3, .ref v21), (0, .ref x0), (1, .ref x1), (2, .int x2)], h33)) rfl ?_
      obtain ⟨v37, e38, hF⟩ := mm_bind hF
      refine go_gI hX c_63 rfl e38 ?_
      obtain ⟨v39, e40, hF⟩ := mm_bind hF
      refine go_aR hX c_63 rfl e40 ?_
      refine go_adv hX c_63 1 (F2 := (92, [.ref v21, .ref v39], [(3, .ref v21), (0, .ref x0), (1, .ref x1), (2, .int x2)], h33)) rfl ?_
      obtain ⟨v41, e42, hF⟩ := mm_bind hF
      refine go_gI hX c_63 rfl e42 ?_
      refine go_adv hX c_63 1 (F2 := (96, [.ref v21, .int v41, .ref v39], [(3, .ref v21), (0, .ref x0), (1, .ref x1), (2, .int x2)], h33)) rfl ?_
      obtain ⟨v43, e44, hF⟩ := mm_bind hF
      refine go_gI hX c_63 rfl e44 ?_
      obtain ⟨h45, e46, hF⟩ := mm_bind hF
      refine go_sI hX c_63 rfl e46 ?_
      refine go_adv hX c_63 1 (F2 := (103, [], [(2, .int (x2 + ki 1)), (3, .ref v21), (0, .ref x0), (1, .ref x1)], h45)) rfl ?_
      refine go_to hX 49 c_63 rfl rfl ?_
      refine go_ls [(0, .ref x0), (1, .ref x1), (2, .int (x2 + ki 1))] ⟨rfl, ⟨rfl, ⟨rfl, trivial⟩⟩⟩ ?_
      exact ih x0 x1 (x2 + ki 1) h45 _ hF hE
theorem r_X4_goOverMoreAndMore_L108 {X : mm_Cl} (hX : mm_mono X) {d c k : Nat} {Q : mm_Re → Prop} : ∀ (n : Nat) (x0 : Nat) (x2 : Int32) (h : mm_S) (o : mm_S), F_X4_goOverMoreAndMore_L108 n x0 x2 h = some o → (mm_Ex (mm_Run X (d + 1)) 63 Q (125, [], [], o) c k) → mm_Ex (mm_Run X (d + 1)) 63 Q (108, [], [(0, .ref x0), (2, .int x2)], h) c k := by
  intro n
  induction n with
  | zero => intro x0 x2 h o hF; cases hF
  | succ n ih =>
    intro x0 x2 h o hF hE
    unfold F_X4_goOverMoreAndMore_L108 at hF
    refine go_adv hX c_63 2 (F2 := (111, [.int (kb 8), .int x2], [(0, .ref x0), (2, .int x2)], h)) rfl ?_
    rcases mm_ite hF with ⟨hc49, hF⟩ | ⟨hc49, hF⟩
    · refine go_ct hX 125 c_63 rfl rfl hc49 ?_
      cases hF
      refine go_ls [] trivial ?_
      exact hE
    · refine go_cf hX c_63 rfl (by decide) hc49 ?_
      refine go_adv hX c_63 2 (F2 := (116, [.int x2, .ref x0], [(0, .ref x0), (2, .int x2)], h)) rfl ?_
      obtain ⟨_, e50, hF⟩ := mm_bind hF
      obtain ⟨v51, e52, hF⟩ := mm_bind hF
      refine go_cV hX (As := [.int x2]) (rv := none) (h2 := v51) (ci := 4) c_63 rfl (Nat.le_of_ble_eq_true rfl) rfl rfl e50 (by decide) (Nat.le_of_ble_eq_true rfl) (fun Q2 hQ2 => r_X4_allowOver hX (d := d) e52 hQ2) ?_
      refine go_adv hX c_63 1 (F2 := (122, [], [(2, .int (x2 + ki 1)), (0, .ref x0)], v51)) rfl ?_
      refine go_to hX 108 c_63 rfl rfl ?_
      refine go_ls [(0, .ref x0), (2, .int (x2 + ki 1))] ⟨rfl, ⟨rfl, trivial⟩⟩ ?_
      exact ih x0 (x2 + ki 1) v51 _ hF hE
theorem r_X4_goOverMoreAndMore {X : mm_Cl} (hX : mm_mono X) {d c k : Nat} {Q : mm_Re → Prop} {h : mm_S} {x0 : Nat} {x1 : Nat} {o : mm_S} (hF : F_X4_goOverMoreAndMore h x0 x1 = some o) (hQ : Q (.inl none, o)) : mm_Run X (d + 2) 63 c k [.ref x0, .ref x1] h Q := by
  unfold F_X4_goOverMoreAndMore at hF
  refine mm_Run_in (by decide) (by decide) (Nat.le_of_ble_eq_true rfl) ?_
  show mm_Ex (mm_Run X (d + 1)) 63 Q (0, [], [(0, .ref x0), (1, .ref x1)], h) c k
  refine go_adv hX c_63 2 (F2 := (2, [], [(2, .int (ki 0)), (0, .ref x0), (1, .ref x1)], h)) rfl ?_
  refine go_ls [(0, .ref x0), (1, .ref x1), (2, .int (ki 0))] ⟨rfl, ⟨rfl, ⟨rfl, trivial⟩⟩⟩ ?_
  obtain ⟨o14, e15, hF⟩ := mm_bind hF
  refine r_X4_goOverMoreAndMore_L2 hX 1000 x0 x1 (ki 0) h o14 e15 ?_
  refine go_adv hX c_63 2 (F2 := (49, [], [(2, .int (ki 0)), (0, .ref x0), (1, .ref x1)], o14)) rfl ?_
  refine go_ls [(0, .ref x0), (1, .ref x1), (2, .int (ki 0))] ⟨rfl, ⟨rfl, ⟨rfl, trivial⟩⟩⟩ ?_
  obtain ⟨o47, e48, hF⟩ := mm_bind hF
  refine r_X4_goOverMoreAndMore_L49 hX 1000 x0 x1 (ki 0) o14 o47 e48 ?_
  refine go_adv hX c_63 2 (F2 := (108, [], [(2, .int (ki 0)), (0, .ref x0)], o47)) rfl ?_
  refine go_ls [(0, .ref x0), (2, .int (ki 0))] ⟨rfl, ⟨rfl, trivial⟩⟩ ?_
  obtain ⟨o53, e54, hF⟩ := mm_bind hF
  refine r_X4_goOverMoreAndMore_L108 hX 1000 x0 (ki 0) o47 o53 e54 ?_
  cases hF
  exact go_ret hX c_63 rfl rfl hQ
theorem c_65 : mm_cd 65 = k_X4_goAgainAndAgain := rfl
def F_X4_goAgainAndAgain_L2 : Nat → Nat → Nat → Int32 → Int32 → mm_S → Option mm_S
  | 0, _, _, _, _, _ => none
  | n + 1, x0, x1, x2, x3, h =>
    if (kb 8) ≤ x3 then
      some h
    else
      (fx_gR h x0 4 2).bind fun v2 =>
      (fx_sI h v2 x3 (nI 1000000)).bind fun h4 =>
      F_X4_goAgainAndAgain_L2 n x0 x1 x2 (x3 + ki 1) h4
def F_X4_goAgainAndAgain_L48 : Nat → Nat → Nat → Int32 → Int32 → Int32 → mm_S → Option mm_S
  | 0, _, _, _, _, _, _ => none
  | n + 1, x0, x1, x2, x3, x4, h =>
    (fx_gI h x1 3 3).bind fun v19 =>
    if v19 ≤ x4 then
      some h
    else
      (fx_gR h x1 3 2).bind fun v22 =>
      (fx_aR h v22 x4).bind fun v24 =>
      (fx_gI h v24 2 0).bind fun v26 =>
      (fx_gR h x0 4 2).bind fun v28 =>
      (fx_is h x0 4).bind fun _ =>
      (F_X4_goOver h x0 x1 x2 v24 v26 v28).bind fun v31 =>
      (fx_gI v31 v24 2 1).bind fun v33 =>
      (fx_gR v31 x0 4 2).bind fun v35 =>
      (fx_is v31 x0 4).bind fun _ =>
      (F_X4_goOver v31 x0 x1 x2 v24 v33 v35).bind fun v38 =>
      F_X4_goAgainAndAgain_L48 n x0 x1 x2 x3 (x4 + ki 1) v38
def F_X4_goAgainAndAgain_L39 : Nat → Nat → Nat → Int32 → Int32 → mm_S → Option mm_S
  | 0, _, _, _, _, _ => none
  | n + 1, x0, x1, x2, x3, h =>
    if (kb 8) ≤ x3 then
      some h
    else
      (F_X4_goAgainAndAgain_L48 1000 x0 x1 x2 x3 (ki 0) h).bind fun o40 =>
      F_X4_goAgainAndAgain_L39 n x0 x1 x2 (x3 + ki 1) o40
def F_X4_goAgainAndAgain (h : mm_S) (x0 : Nat) (x1 : Nat) (x2 : Int32) : Option mm_S :=
  (F_X4_goAgainAndAgain_L2 1000 x0 x1 x2 (ki 0) h).bind fun o6 =>
  (fx_gR o6 x0 4 2).bind fun v8 =>
  (fx_gR o6 x1 3 0).bind fun v10 =>
  (fx_aR o6 v10 x2).bind fun v12 =>
  (fx_gI o6 v12 0 1).bind fun v14 =>
  (fx_sI o6 v8 v14 (ki 0)).bind fun h16 =>
  (F_X4_goAgainAndAgain_L39 1000 x0 x1 x2 (ki 1) h16).bind fun o42 =>
  some o42
theorem r_X4_goAgainAndAgain_L2 {X : mm_Cl} (hX : mm_mono X) {d c k : Nat} {Q : mm_Re → Prop} : ∀ (n : Nat) (x0 : Nat) (x1 : Nat) (x2 : Int32) (x3 : Int32) (h : mm_S) (o : mm_S), F_X4_goAgainAndAgain_L2 n x0 x1 x2 x3 h = some o → (mm_Ex (mm_Run X (d + 2)) 65 Q (22, [], [(0, .ref x0), (1, .ref x1), (2, .int x2)], o) c k) → mm_Ex (mm_Run X (d + 2)) 65 Q (2, [], [(0, .ref x0), (1, .ref x1), (2, .int x2), (3, .int x3)], h) c k := by
  intro n
  induction n with
  | zero => intro x0 x1 x2 x3 h o hF; cases hF
  | succ n ih =>
    intro x0 x1 x2 x3 h o hF hE
    unfold F_X4_goAgainAndAgain_L2 at hF
    refine go_adv hX c_65 2 (F2 := (5, [.int (kb 8), .int x3], [(0, .ref x0), (1, .ref x1), (2, .int x2), (3, .int x3)], h)) rfl ?_
    rcases mm_ite hF with ⟨hc1, hF⟩ | ⟨hc1, hF⟩
    · refine go_ct hX 22 c_65 rfl rfl hc1 ?_
      cases hF
      refine go_ls [(0, .ref x0), (1, .ref x1), (2, .int x2)] ⟨rfl, ⟨rfl, ⟨rfl, trivial⟩⟩⟩ ?_
      exact hE
    · refine go_cf hX c_65 rfl (by decide) hc1 ?_
      refine go_adv hX c_65 1 (F2 := (9, [.ref x0], [(0, .ref x0), (1, .ref x1), (2, .int x2), (3, .int x3)], h)) rfl ?_
      obtain ⟨v2, e3, hF⟩ := mm_bind hF
      refine go_gR hX c_65 rfl e3 ?_
      refine go_adv hX c_65 2 (F2 := (15, [.int (nI 1000000), .int x3, .ref v2], [(0, .ref x0), (1, .ref x1), (2, .int x2), (3, .int x3)], h)) rfl ?_
      obtain ⟨h4, e5, hF⟩ := mm_bind hF
      refine go_sI hX c_65 rfl e5 ?_
      refine go_adv hX c_65 1 (F2 := (19, [], [(3, .int (x3 + ki 1)), (0, .ref x0), (1, .ref x1), (2, .int x2)], h4)) rfl ?_
      refine go_to hX 2 c_65 rfl rfl ?_
      refine go_ls [(0, .ref x0), (1, .ref x1), (2, .int x2), (3, .int (x3 + ki 1))] ⟨rfl, ⟨rfl, ⟨rfl, ⟨rfl, trivial⟩⟩⟩⟩ ?_
      exact ih x0 x1 x2 (x3 + ki 1) h4 _ hF hE
theorem r_X4_goAgainAndAgain_L48 {X : mm_Cl} (hX : mm_mono X) {d c k : Nat} {Q : mm_Re → Prop} : ∀ (n : Nat) (x0 : Nat) (x1 : Nat) (x2 : Int32) (x3 : Int32) (x4 : Int32) (h : mm_S) (o : mm_S), F_X4_goAgainAndAgain_L48 n x0 x1 x2 x3 x4 h = some o → (mm_Ex (mm_Run X (d + 2)) 65 Q (106, [], [(0, .ref x0), (1, .ref x1), (2, .int x2), (3, .int x3)], o) c k) → mm_Ex (mm_Run X (d + 2)) 65 Q (48, [], [(0, .ref x0), (1, .ref x1), (2, .int x2), (3, .int x3), (4, .int x4)], h) c k := by
  intro n
  induction n with
  | zero => intro x0 x1 x2 x3 x4 h o hF; cases hF
  | succ n ih =>
    intro x0 x1 x2 x3 x4 h o hF hE
    unfold F_X4_goAgainAndAgain_L48 at hF
    refine go_adv hX c_65 2 (F2 := (51, [.ref x1, .int x4], [(0, .ref x0), (1, .ref x1), (2, .int x2), (3, .int x3), (4, .int x4)], h)) rfl ?_
    obtain ⟨v19, e20, hF⟩ := mm_bind hF
    refine go_gI hX c_65 rfl e20 ?_
    rcases mm_ite hF with ⟨hc21, hF⟩ | ⟨hc21, hF⟩
    · refine go_ct hX 106 c_65 rfl rfl hc21 ?_
      cases hF
      refine go_ls [(0, .ref x0), (1, .ref x1), (2, .int x2), (3, .int x3)] ⟨rfl, ⟨rfl, ⟨rfl, ⟨rfl, trivial⟩⟩⟩⟩ ?_
      exact hE
    · refine go_cf hX c_65 rfl (by decide) hc21 ?_
      refine go_adv hX c_65 1 (F2 := (58, [.ref x1], [(0, .ref x0), (1, .ref x1), (2, .int x2), (3, .int x3), (4, .int x4)], h)) rfl ?_
      obtain ⟨v22, e23, hF⟩ := mm_bind hF
      refine go_gR hX c_65 rfl e23 ?_
      refine go_adv hX c_65 1 (F2 := (63, [.int x4, .ref v22], [(0, .ref x0), (1, .ref x1), (2, .int x2), (3, .int x3), (4, .int x4)], h)) rfl ?_
      obtain ⟨v24, e25, hF⟩ := mm_bind hF
      refine go_aR hX c_65 rfl e25 ?_
      refine go_adv hX c_65 6 (F2 := (73, [.ref v24, .ref v24, .int x2, .ref x1, .ref x0], [(5, .ref v24), (0, .ref x0), (1, .ref x1), (2, .int x2), (3, .int x3), (4, .int x4)], h)) rfl ?_
      obtain ⟨v26, e27, hF⟩ := mm_bind hF
      refine go_gI hX c_65 rfl e27 ?_
      refine go_adv hX c_65 1 (F2 := (77, [.ref x0, .int v26, .ref v24, .int x2, .ref x1, .ref x0], [(5, .ref v24), (0, .ref x0), (1, .ref x1), (2, .int x2), (3, .int x3), (4, .int x4)], h)) rfl ?_
      obtain ⟨v28, e29, hF⟩ := mm_bind hF
      refine go_gR hX c_65 rfl e29 ?_
      obtain ⟨_, e30, hF⟩ := mm_bind hF
      obtain ⟨v31, e32, hF⟩ := mm_bind hF
      refine go_cV hX (As := [.ref x1, .int x2, .ref v24, .int v26, .ref v28]) (rv := none) (h2 := v31) (ci := 4) c_65 rfl (Nat.le_of_ble_eq_true rfl) rfl rfl e30 (by decide) (Nat.le_of_ble_eq_true rfl) (fun Q2 hQ2 => r_X4_goOver hX (d := d) e32 hQ2) ?_
      refine go_adv hX c_65 5 (F2 := (90, [.ref v24, .ref v24, .int x2, .ref x1, .ref x0], [(5, .ref v24), (0, .ref x0), (1, .ref x1), (2, .int x2), (3, .int x3), (4, .int x4)], v31)) rfl ?_
      obtain ⟨v33, e34, hF⟩ := mm_bind hF
      refine go_gI hX c_65 rfl e34 ?_
      refine go_adv hX c_65 1 (F2 := (94, [.ref x0, .int v33, .ref v24, .int x2, .ref x1, .ref x0], [(5, .ref v24), (0, .ref x0), (1, .ref x1), (2, .int x2), (3, .int x3), (4, .int x4)], v31)) rfl ?_
      obtain ⟨v35, e36, hF⟩ := mm_bind hF
      refine go_gR hX c_65 rfl e36 ?_
      obtain ⟨_, e37, hF⟩ := mm_bind hF
      obtain ⟨v38, e39, hF⟩ := mm_bind hF
      refine go_cV hX (As := [.ref x1, .int x2, .ref v24, .int v33, .ref v35]) (rv := none) (h2 := v38) (ci := 4) c_65 rfl (Nat.le_of_ble_eq_true rfl) rfl rfl e37 (by decide) (Nat.le_of_ble_eq_true rfl) (fun Q2 hQ2 => r_X4_goOver hX (d := d) e39 hQ2) ?_
      refine go_adv hX c_65 1 (F2 := (103, [], [(4, .int (x4 + ki 1)), (5, .ref v24), (0, .ref x0), (1, .ref x1), (2, .int x2), (3, .int x3)], v38)) rfl ?_
      refine go_to hX 48 c_65 rfl rfl ?_
      refine go_ls [(0, .ref x0), (1, .ref x1), (2, .int x2), (3, .int x3), (4, .int (x4 + ki 1))] ⟨rfl, ⟨rfl, ⟨rfl, ⟨rfl, ⟨rfl, trivial⟩⟩⟩⟩⟩ ?_
      exact ih x0 x1 x2 x3 (x4 + ki 1) v38 _ hF hE
theorem r_X4_goAgainAndAgain_L39 {X : mm_Cl} (hX : mm_mono X) {d c k : Nat} {Q : mm_Re → Prop} : ∀ (n : Nat) (x0 : Nat) (x1 : Nat) (x2 : Int32) (x3 : Int32) (h : mm_S) (o : mm_S), F_X4_goAgainAndAgain_L39 n x0 x1 x2 x3 h = some o → (mm_Ex (mm_Run X (d + 2)) 65 Q (112, [], [], o) c k) → mm_Ex (mm_Run X (d + 2)) 65 Q (39, [], [(0, .ref x0), (1, .ref x1), (2, .int x2), (3, .int x3)], h) c k := by
  intro n
  induction n with
  | zero => intro x0 x1 x2 x3 h o hF; cases hF
  | succ n ih =>
    intro x0 x1 x2 x3 h o hF hE
    unfold F_X4_goAgainAndAgain_L39 at hF
    refine go_adv hX c_65 2 (F2 := (42, [.int (kb 8), .int x3], [(0, .ref x0), (1, .ref x1), (2, .int x2), (3, .int x3)], h)) rfl ?_
    rcases mm_ite hF with ⟨hc18, hF⟩ | ⟨hc18, hF⟩
    · refine go_ct hX 112 c_65 rfl rfl hc18 ?_
      cases hF
      refine go_ls [] trivial ?_
      exact hE
    · refine go_cf hX c_65 rfl (by decide) hc18 ?_
      refine go_adv hX c_65 2 (F2 := (48, [], [(4, .int (ki 0)), (0, .ref x0), (1, .ref x1), (2, .int x2), (3, .int x3)], h)) rfl ?_
      refine go_ls [(0, .ref x0), (1, .ref x1), (2, .int x2), (3, .int x3), (4, .int (ki 0))] ⟨rfl, ⟨rfl, ⟨rfl, ⟨rfl, ⟨rfl, trivial⟩⟩⟩⟩⟩ ?_
      obtain ⟨o40, e41, hF⟩ := mm_bind hF
      refine r_X4_goAgainAndAgain_L48 hX 1000 x0 x1 x2 x3 (ki 0) h o40 e41 ?_
      refine go_adv hX c_65 1 (F2 := (109, [], [(3, .int (x3 + ki 1)), (0, .ref x0), (1, .ref x1), (2, .int x2)], o40)) rfl ?_
      refine go_to hX 39 c_65 rfl rfl ?_
      refine go_ls [(0, .ref x0), (1, .ref x1), (2, .int x2), (3, .int (x3 + ki 1))] ⟨rfl, ⟨rfl, ⟨rfl, ⟨rfl, trivial⟩⟩⟩⟩ ?_
      exact ih x0 x1 x2 (x3 + ki 1) o40 _ hF hE
theorem r_X4_goAgainAndAgain {X : mm_Cl} (hX : mm_mono X) {d c k : Nat} {Q : mm_Re → Prop} {h : mm_S} {x0 : Nat} {x1 : Nat} {x2 : Int32} {o : mm_S} (hF : F_X4_goAgainAndAgain h x0 x1 x2 = some o) (hQ : Q (.inl none, o)) : mm_Run X (d + 3) 65 c k [.ref x0, .ref x1, .int x2] h Q := by
  unfold F_X4_goAgainAndAgain at hF
  refine mm_Run_in (by decide) (by decide) (Nat.le_of_ble_eq_true rfl) ?_
  show mm_Ex (mm_Run X (d + 2)) 65 Q (0, [], [(0, .ref x0), (1, .ref x1), (2, .int x2)], h) c k
  refine go_adv hX c_65 2 (F2 := (2, [], [(3, .int (ki 0)), (0, .ref x0), (1, .ref x1), (2, .int x2)], h)) rfl ?_
  refine go_ls [(0, .ref x0), (1, .ref x1), (2, .int x2), (3, .int (ki 0))] ⟨rfl, ⟨rfl, ⟨rfl, ⟨rfl, trivial⟩⟩⟩⟩ ?_
  obtain ⟨o6, e7, hF⟩ := mm_bind hF
  refine r_X4_goAgainAndAgain_L2 hX 1000 x0 x1 x2 (ki 0) h o6 e7 ?_
  refine go_adv hX c_65 1 (F2 := (23, [.ref x0], [(0, .ref x0), (1, .ref x1), (2, .int x2)], o6)) rfl ?_
  obtain ⟨v8, e9, hF⟩ := mm_bind hF
  refine go_gR hX c_65 rfl e9 ?_
  refine go_adv hX c_65 1 (F2 := (27, [.ref x1, .ref v8], [(0, .ref x0), (1, .ref x1), (2, .int x2)], o6)) rfl ?_
  obtain ⟨v10, e11, hF⟩ := mm_bind hF
  refine go_gR hX c_65 rfl e11 ?_
  refine go_adv hX c_65 1 (F2 := (31, [.int x2, .ref v10, .ref v8], [(0, .ref x0), (1, .ref x1), (2, .int x2)], o6)) rfl ?_
  obtain ⟨v12, e13, hF⟩ := mm_bind hF
  refine go_aR hX c_65 rfl e13 ?_
  obtain ⟨v14, e15, hF⟩ := mm_bind hF
  refine go_gI hX c_65 rfl e15 ?_
  refine go_adv hX c_65 1 (F2 := (36, [.int (ki 0), .int v14, .ref v8], [(0, .ref x0), (1, .ref x1), (2, .int x2)], o6)) rfl ?_
  obtain ⟨h16, e17, hF⟩ := mm_bind hF
  refine go_sI hX c_65 rfl e17 ?_
  refine go_adv hX c_65 2 (F2 := (39, [], [(3, .int (ki 1)), (0, .ref x0), (1, .ref x1), (2, .int x2)], h16)) rfl ?_
  refine go_ls [(0, .ref x0), (1, .ref x1), (2, .int x2), (3, .int (ki 1))] ⟨rfl, ⟨rfl, ⟨rfl, ⟨rfl, trivial⟩⟩⟩⟩ ?_
  obtain ⟨o42, e43, hF⟩ := mm_bind hF
  refine r_X4_goAgainAndAgain_L39 hX 1000 x0 x1 x2 (ki 1) h16 o42 e43 ?_
  cases hF
  exact go_ret hX c_65 rfl rfl hQ
theorem c_66 : mm_cd 66 = k_X4_firstStair := rfl
def F_X4_firstStair_L41 : Nat → Nat → Nat → Int32 → Int32 → Int32 → mm_S → Option ((Int32 × mm_S) ⊕ mm_S)
  | 0, _, _, _, _, _, _ => none
  | n + 1, x0, x1, x2, x4, x5, h =>
    (fx_gI h x1 3 3).bind fun v16 =>
    if v16 ≤ x5 then
      some (.inr h)
    else
      (fx_gR h x1 3 2).bind fun v19 =>
      (fx_aR h v19 x5).bind fun v21 =>
      (fx_is h v21 2).bind fun _ =>
      (F_X2_isEnd h v21 x4).bind fun v24 =>
      if v24 = 0 then
        F_X4_firstStair_L41 n x0 x1 x2 x4 (x5 + ki 1) h
      else
        (fx_is h v21 2).bind fun _ =>
        (F_X2_costFor h v21 x2).bind fun v28 =>
        (fx_gR h x0 4 0).bind fun v30 =>
        (fx_is h v21 2).bind fun _ =>
        (F_X2_otherEnd h v21 x4).bind fun v33 =>
        (fx_aI h v30 v33).bind fun v35 =>
        (fx_gR h x0 4 0).bind fun v37 =>
        (fx_aI h v37 x4).bind fun v39 =>
        if (v28 + v35) ≠ v39 then
          F_X4_firstStair_L41 n x0 x1 x2 x4 (x5 + ki 1) h
        else
          some (.inl (x5, h))
def F_X4_firstStair (h : mm_S) (x0 : Nat) (x1 : Nat) (x2 : Int32) (x3 : Int32) : Option (Int32 × mm_S) :=
  (fx_gR h x1 3 0).bind fun v1 =>
  (fx_aR h v1 x2).bind fun v3 =>
  (fx_gI h v3 0 1).bind fun v5 =>
  (fx_is h x0 4).bind fun _ =>
  (F_X4_goNearestFirst h x0 x1 x2 x3).bind fun v8 =>
  if v5 = x3 then
    some (ki (-1), v8)
  else
    (fx_gR v8 x0 4 0).bind fun v11 =>
    (fx_aI v8 v11 v5).bind fun v13 =>
    if v13 < (nI 1000000) then
      (F_X4_firstStair_L41 1000 x0 x1 x2 v5 (ki 0) v8).bind fun o42 => match o42 with
        | .inl o42r => some o42r
        | .inr o42e =>
          some (ki (-1), o42e)
    else
      some (ki (-1), v8)
theorem r_X4_firstStair_L41 {X : mm_Cl} (hX : mm_mono X) {d c k : Nat} {Q : mm_Re → Prop} : ∀ (n : Nat) (x0 : Nat) (x1 : Nat) (x2 : Int32) (x4 : Int32) (x5 : Int32) (h : mm_S) (o : ((Int32 × mm_S) ⊕ mm_S)), F_X4_firstStair_L41 n x0 x1 x2 x4 x5 h = some o → (∀ r, o = .inl r → Q (.inl (some (.int r.1)), r.2)) → (∀ e, o = .inr e → mm_Ex (mm_Run X (d + 4)) 66 Q (107, [], [], e) c k) → mm_Ex (mm_Run X (d + 4)) 66 Q (41, [], [(0, .ref x0), (1, .ref x1), (2, .int x2), (4, .int x4), (5, .int x5)], h) c k := by
  intro n
  induction n with
  | zero => intro x0 x1 x2 x4 x5 h o hF; cases hF
  | succ n ih =>
    intro x0 x1 x2 x4 x5 h o hF hR hE
    unfold F_X4_firstStair_L41 at hF
    refine go_adv hX c_66 2 (F2 := (44, [.ref x1, .int x5], [(0, .ref x0), (1, .ref x1), (2, .int x2), (4, .int x4), (5, .int x5)], h)) rfl ?_
    obtain ⟨v16, e17, hF⟩ := mm_bind hF
    refine go_gI hX c_66 rfl e17 ?_
    rcases mm_ite hF with ⟨hc18, hF⟩ | ⟨hc18, hF⟩
    · refine go_ct hX 107 c_66 rfl rfl hc18 ?_
      cases hF
      refine go_ls [] trivial ?_
      exact hE _ rfl
    · refine go_cf hX c_66 rfl (by decide) hc18 ?_
      refine go_adv hX c_66 1 (F2 := (51, [.ref x1], [(0, .ref x0), (1, .ref x1), (2, .int x2), (4, .int x4), (5, .int x5)], h)) rfl ?_
      obtain ⟨v19, e20, hF⟩ := mm_bind hF
      refine go_gR hX c_66 rfl e20 ?_
      refine go_adv hX c_66 1 (F2 := (56, [.int x5, .ref v19], [(0, .ref x0), (1, .ref x1), (2, .int x2), (4, .int x4), (5, .int x5)], h)) rfl ?_
      obtain ⟨v21, e22, hF⟩ := mm_bind hF
      refine go_aR hX c_66 rfl e22 ?_
      refine go_adv hX c_66 3 (F2 := (63, [.int x4, .ref v21], [(6, .ref v21), (0, .ref x0), (1, .ref x1), (2, .int x2), (4, .int x4), (5, .int x5)], h)) rfl ?_
      obtain ⟨_, e23, hF⟩ := mm_bind hF
      obtain ⟨v24, e25, hF⟩ := mm_bind hF
      refine go_cV hX (As := [.int x4]) (rv := some (.int v24)) (h2 := h) (ci := 2) c_66 rfl (Nat.le_of_ble_eq_true rfl) rfl rfl e23 (by decide) (Nat.le_of_ble_eq_true rfl) (fun Q2 hQ2 => r_X2_isEnd hX (d := (d + 3)) e25 hQ2) ?_
      rcases mm_ite hF with ⟨hc26, hF⟩ | ⟨hc26, hF⟩
      · refine go_zt hX 101 c_66 rfl rfl hc26 ?_
        refine go_adv hX c_66 1 (F2 := (104, [], [(5, .int (x5 + ki 1)), (6, .ref v21), (0, .ref x0), (1, .ref x1), (2, .int x2), (4, .int x4)], h)) rfl ?_
        refine go_to hX 41 c_66 rfl rfl ?_
        refine go_ls [(0, .ref x0), (1, .ref x1), (2, .int x2), (4, .int x4), (5, .int (x5 + ki 1))] ⟨rfl, ⟨rfl, ⟨rfl, ⟨rfl, ⟨rfl, trivial⟩⟩⟩⟩⟩ ?_
        exact ih x0 x1 x2 x4 (x5 + ki 1) h _ hF hR hE
      · refine go_zf hX c_66 rfl (by decide) hc26 ?_
        refine go_adv hX c_66 2 (F2 := (72, [.int x2, .ref v21], [(6, .ref v21), (0, .ref x0), (1, .ref x1), (2, .int x2), (4, .int x4), (5, .int x5)], h)) rfl ?_
        obtain ⟨_, e27, hF⟩ := mm_bind hF
        obtain ⟨v28, e29, hF⟩ := mm_bind hF
        refine go_cV hX (As := [.int x2]) (rv := some (.int v28)) (h2 := h) (ci := 2) c_66 rfl (Nat.le_of_ble_eq_true rfl) rfl rfl e27 (by decide) (Nat.le_of_ble_eq_true rfl) (fun Q2 hQ2 => r_X2_costFor hX (d := (d + 3)) e29 hQ2) ?_
        refine go_adv hX c_66 1 (F2 := (76, [.ref x0, .int v28], [(6, .ref v21), (0, .ref x0), (1, .ref x1), (2, .int x2), (4, .int x4), (5, .int x5)], h)) rfl ?_
        obtain ⟨v30, e31, hF⟩ := mm_bind hF
        refine go_gR hX c_66 rfl e31 ?_
        refine go_adv hX c_66 2 (F2 := (83, [.int x4, .ref v21, .ref v30, .int v28], [(6, .ref v21), (0, .ref x0), (1, .ref x1), (2, .int x2), (4, .int x4), (5, .int x5)], h)) rfl ?_
        obtain ⟨_, e32, hF⟩ := mm_bind hF
        obtain ⟨v33, e34, hF⟩ := mm_bind hF
        refine go_cV hX (As := [.int x4]) (rv := some (.int v33)) (h2 := h) (ci := 2) c_66 rfl (Nat.le_of_ble_eq_true rfl) rfl rfl e32 (by decide) (Nat.le_of_ble_eq_true rfl) (fun Q2 hQ2 => r_X2_otherEnd hX (d := (d + 3)) e34 hQ2) ?_
        obtain ⟨v35, e36, hF⟩ := mm_bind hF
        refine go_aI hX c_66 rfl e36 ?_
        refine go_adv hX c_66 2 (F2 := (89, [.ref x0, .int (v28 + v35)], [(6, .ref v21), (0, .ref x0), (1, .ref x1), (2, .int x2), (4, .int x4), (5, .int x5)], h)) rfl ?_
        obtain ⟨v37, e38, hF⟩ := mm_bind hF
        refine go_gR hX c_66 rfl e38 ?_
        refine go_adv hX c_66 1 (F2 := (94, [.int x4, .ref v37, .int (v28 + v35)], [(6, .ref v21), (0, .ref x0), (1, .ref x1), (2, .int x2), (4, .int x4), (5, .int x5)], h)) rfl ?_
        obtain ⟨v39, e40, hF⟩ := mm_bind hF
        refine go_aI hX c_66 rfl e40 ?_
        rcases mm_ite hF with ⟨hc41, hF⟩ | ⟨hc41, hF⟩
        · refine go_ct hX 101 c_66 rfl rfl hc41 ?_
          refine go_adv hX c_66 1 (F2 := (104, [], [(5, .int (x5 + ki 1)), (6, .ref v21), (0, .ref x0), (1, .ref x1), (2, .int x2), (4, .int x4)], h)) rfl ?_
          refine go_to hX 41 c_66 rfl rfl ?_
          refine go_ls [(0, .ref x0), (1, .ref x1), (2, .int x2), (4, .int x4), (5, .int (x5 + ki 1))] ⟨rfl, ⟨rfl, ⟨rfl, ⟨rfl, ⟨rfl, trivial⟩⟩⟩⟩⟩ ?_
          exact ih x0 x1 x2 x4 (x5 + ki 1) h _ hF hR hE
        · refine go_cf hX c_66 rfl (by decide) hc41 ?_
          refine go_adv hX c_66 1 (F2 := (100, [.int x5], [(6, .ref v21), (0, .ref x0), (1, .ref x1), (2, .int x2), (4, .int x4), (5, .int x5)], h)) rfl ?_
          cases hF
          have hQ := hR _ rfl
          exact go_iret hX c_66 rfl rfl rfl hQ
theorem r_X4_firstStair {X : mm_Cl} (hX : mm_mono X) {d c k : Nat} {Q : mm_Re → Prop} {h : mm_S} {x0 : Nat} {x1 : Nat} {x2 : Int32} {x3 : Int32} {o : (Int32 × mm_S)} (hF : F_X4_firstStair h x0 x1 x2 x3 = some o) (hQ : Q (.inl (some (.int o.1)), o.2)) : mm_Run X (d + 5) 66 c k [.ref x0, .ref x1, .int x2, .int x3] h Q := by
  unfold F_X4_firstStair at hF
  refine mm_Run_in (by decide) (by decide) (Nat.le_of_ble_eq_true rfl) ?_
  show mm_Ex (mm_Run X (d + 4)) 66 Q (0, [], [(0, .ref x0), (1, .ref x1), (2, .int x2), (3, .int x3)], h) c k
  refine go_adv hX c_66 1 (F2 := (1, [.ref x1], [(0, .ref x0), (1, .ref x1), (2, .int x2), (3, .int x3)], h)) rfl ?_
  obtain ⟨v1, e2, hF⟩ := mm_bind hF
  refine go_gR hX c_66 rfl e2 ?_
  refine go_adv hX c_66 1 (F2 := (5, [.int x2, .ref v1], [(0, .ref x0), (1, .ref x1), (2, .int x2), (3, .int x3)], h)) rfl ?_
  obtain ⟨v3, e4, hF⟩ := mm_bind hF
  refine go_aR hX c_66 rfl e4 ?_
  obtain ⟨v5, e6, hF⟩ := mm_bind hF
  refine go_gI hX c_66 rfl e6 ?_
  refine go_adv hX c_66 5 (F2 := (15, [.int x3, .int x2, .ref x1, .ref x0], [(4, .int v5), (0, .ref x0), (1, .ref x1), (2, .int x2), (3, .int x3)], h)) rfl ?_
  obtain ⟨_, e7, hF⟩ := mm_bind hF
  obtain ⟨v8, e9, hF⟩ := mm_bind hF
  refine go_cV hX (As := [.ref x1, .int x2, .int x3]) (rv := none) (h2 := v8) (ci := 4) c_66 rfl (Nat.le_of_ble_eq_true rfl) rfl rfl e7 (by decide) (Nat.le_of_ble_eq_true rfl) (fun Q2 hQ2 => r_X4_goNearestFirst hX (d := d) e9 hQ2) ?_
  refine go_adv hX c_66 2 (F2 := (21, [.int x3, .int v5], [(4, .int v5), (0, .ref x0), (1, .ref x1), (2, .int x2), (3, .int x3)], v8)) rfl ?_
  rcases mm_ite hF with ⟨hc10, hF⟩ | ⟨hc10, hF⟩
  · refine go_ct hX 36 c_66 rfl rfl hc10 ?_
    refine go_adv hX c_66 1 (F2 := (37, [.int (ki (-1))], [(4, .int v5), (0, .ref x0), (1, .ref x1), (2, .int x2), (3, .int x3)], v8)) rfl ?_
    cases hF
    exact go_iret hX c_66 rfl rfl rfl hQ
  · refine go_cf hX c_66 rfl (by decide) hc10 ?_
    refine go_adv hX c_66 1 (F2 := (25, [.ref x0], [(4, .int v5), (0, .ref x0), (1, .ref x1), (2, .int x2), (3, .int x3)], v8)) rfl ?_
    obtain ⟨v11, e12, hF⟩ := mm_bind hF
    refine go_gR hX c_66 rfl e12 ?_
    refine go_adv hX c_66 1 (F2 := (30, [.int v5, .ref v11], [(4, .int v5), (0, .ref x0), (1, .ref x1), (2, .int x2), (3, .int x3)], v8)) rfl ?_
    obtain ⟨v13, e14, hF⟩ := mm_bind hF
    refine go_aI hX c_66 rfl e14 ?_
    refine go_adv hX c_66 1 (F2 := (33, [.int (nI 1000000), .int v13], [(4, .int v5), (0, .ref x0), (1, .ref x1), (2, .int x2), (3, .int x3)], v8)) rfl ?_
    rcases mm_ite hF with ⟨hc15, hF⟩ | ⟨hc15, hF⟩
    · refine go_ct hX 38 c_66 rfl rfl hc15 ?_
      refine go_adv hX c_66 2 (F2 := (41, [], [(5, .int (ki 0)), (4, .int v5), (0, .ref x0), (1, .ref x1), (2, .int x2), (3, .int x3)], v8)) rfl ?_
      refine go_ls [(0, .ref x0), (1, .ref x1), (2, .int x2), (4, .int v5), (5, .int (ki 0))] ⟨rfl, ⟨rfl, ⟨rfl, ⟨rfl, ⟨rfl, trivial⟩⟩⟩⟩⟩ ?_
      obtain ⟨o42, e43, hF⟩ := mm_bind hF
      refine r_X4_firstStair_L41 hX 1000 x0 x1 x2 v5 (ki 0) v8 o42 e43 ?_ ?_
      · intro o42r hr
        subst hr
        dsimp only at hF
        cases hF
        exact hQ
      · intro o42e he
        subst he
        dsimp only at hF
        refine go_adv hX c_66 1 (F2 := (108, [.int (ki (-1))], [], o42e)) rfl ?_
        cases hF
        exact go_iret hX c_66 rfl rfl rfl hQ
    · refine go_cf hX c_66 rfl (by decide) hc15 ?_
      refine go_adv hX c_66 1 (F2 := (37, [.int (ki (-1))], [(4, .int v5), (0, .ref x0), (1, .ref x1), (2, .int x2), (3, .int x3)], v8)) rfl ?_
      cases hF
      exact go_iret hX c_66 rfl rfl rfl hQ

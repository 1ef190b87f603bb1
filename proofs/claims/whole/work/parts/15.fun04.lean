theorem c_147 : mm_cd 147 = k_X6_isRefusedBuild := rfl
def F_X6_isRefusedBuild (h : mm_S) (x0 : Nat) (x1 : Int32) (x2 : Int32) (x3 : Int32) : Option (Int32 × mm_S) :=
  (fx_is h x0 6).bind fun _ =>
  (F_X6_isNoLanding h x0 x1).bind fun v2 =>
  if v2.1 ≠ 0 then
    some (ki 1, v2.2)
  else
    (fx_is v2.2 x0 6).bind fun _ =>
    (F_X6_isNoLanding v2.2 x0 x2).bind fun v6 =>
    if v6.1 = 0 then
      (F_X6_in v6.2 x3 (ki 1) (kb 40)).bind fun v9 =>
      if v9 ≠ 0 then
        if x1 ≠ x2 then
          (fx_is v6.2 x0 6).bind fun _ =>
          (F_X6_stairBetween v6.2 x0 x1 x2).bind fun v14 =>
          if v14 < 0 then
            (fx_gR v6.2 x0 6 0).bind fun v17 =>
            (fx_aI v6.2 v17 (ki 0)).bind fun v19 =>
            if v19 ≠ (kb 10) then
              some (ki 0, v6.2)
            else
              (fx_is v6.2 x0 6).bind fun _ =>
              (F_X6_isBad v6.2 x0 (ki 1) (kb 10)).bind fun v23 =>
              if v23.1 = 0 then
                some (ki 0, v23.2)
              else
                some (ki 1, v23.2)
          else
            (fx_is v6.2 x0 6).bind fun _ =>
            (F_X6_stairBetween v6.2 x0 x1 x2).bind fun v27 =>
            (fx_is v6.2 x0 6).bind fun _ =>
            (F_X6_isBad v6.2 x0 (ki 5) v27).bind fun v30 =>
            (fx_nar .boolean v30.1).bind fun v32 =>
            some (v32, v30.2)
        else
          (fx_is v6.2 x0 6).bind fun _ =>
          (F_X6_isBad v6.2 x0 (ki 4) x1).bind fun v35 =>
          (fx_nar .boolean v35.1).bind fun v37 =>
          some (v37, v35.2)
      else
        (fx_is v6.2 x0 6).bind fun _ =>
        (F_X6_isBad v6.2 x0 (ki 3) x3).bind fun v40 =>
        (fx_nar .boolean v40.1).bind fun v42 =>
        some (v42, v40.2)
    else
      some (ki 1, v6.2)
theorem r_X6_isRefusedBuild {X : mm_Cl} (hX : mm_mono X) {d c k : Nat} {Q : mm_Re → Prop} {h : mm_S} {x0 : Nat} {x1 : Int32} {x2 : Int32} {x3 : Int32} {o : (Int32 × mm_S)} (hF : F_X6_isRefusedBuild h x0 x1 x2 x3 = some o) (hQ : Q (.inl (some (.int o.1)), o.2)) : mm_Run X (d + 4) 147 c k [.ref x0, .int x1, .int x2, .int x3] h Q := by
  unfold F_X6_isRefusedBuild at hF
  refine mm_Run_in (by decide) (by decide) (Nat.le_of_ble_eq_true rfl) ?_
  show mm_Ex (mm_Run X (d + 3)) 147 Q (0, [], [(0, .ref x0), (1, .int x1), (2, .int x2), (3, .int x3)], h) c k
  refine go_adv hX c_147 2 (F2 := (2, [.int x1, .ref x0], [(0, .ref x0), (1, .int x1), (2, .int x2), (3, .int x3)], h)) rfl ?_
  obtain ⟨_, e1, hF⟩ := mm_bind hF
  obtain ⟨v2, e3, hF⟩ := mm_bind hF
  refine go_cV hX (As := [.int x1]) (rv := some (.int v2.1)) (h2 := v2.2) (ci := 6) c_147 rfl (Nat.le_of_ble_eq_true rfl) rfl rfl e1 (by decide) (Nat.le_of_ble_eq_true rfl) (fun Q2 hQ2 => r_X6_isNoLanding hX (d := d) e3 hQ2) ?_
  rcases mm_ite hF with ⟨hc4, hF⟩ | ⟨hc4, hF⟩
  · refine go_zt hX 16 c_147 rfl rfl hc4 ?_
    refine go_adv hX c_147 1 (F2 := (17, [.int (ki 1)], [(0, .ref x0), (1, .int x1), (2, .int x2), (3, .int x3)], v2.2)) rfl ?_
    cases hF
    exact go_iret hX c_147 rfl rfl (by decide) hQ
  · refine go_zf hX c_147 rfl (by decide) hc4 ?_
    refine go_adv hX c_147 2 (F2 := (10, [.int x2, .ref x0], [(0, .ref x0), (1, .int x1), (2, .int x2), (3, .int x3)], v2.2)) rfl ?_
    obtain ⟨_, e5, hF⟩ := mm_bind hF
    obtain ⟨v6, e7, hF⟩ := mm_bind hF
    refine go_cV hX (As := [.int x2]) (rv := some (.int v6.1)) (h2 := v6.2) (ci := 6) c_147 rfl (Nat.le_of_ble_eq_true rfl) rfl rfl e5 (by decide) (Nat.le_of_ble_eq_true rfl) (fun Q2 hQ2 => r_X6_isNoLanding hX (d := d) e7 hQ2) ?_
    rcases mm_ite hF with ⟨hc8, hF⟩ | ⟨hc8, hF⟩
    · refine go_zt hX 18 c_147 rfl rfl hc8 ?_
      refine go_adv hX c_147 3 (F2 := (22, [.int (kb 40), .int (ki 1), .int x3], [(0, .ref x0), (1, .int x1), (2, .int x2), (3, .int x3)], v6.2)) rfl ?_
      obtain ⟨v9, e10, hF⟩ := mm_bind hF
      refine go_cS hX (As := [.int x3, .int (ki 1), .int (kb 40)]) (rv := some (.int v9)) (h2 := v6.2) c_147 rfl (by decide) (Nat.le_of_ble_eq_true rfl) rfl rfl (Nat.le_of_ble_eq_true rfl) (fun Q2 hQ2 => r_X6_in hX (d := (d + 2)) e10 hQ2) ?_
      rcases mm_ite hF with ⟨hc11, hF⟩ | ⟨hc11, hF⟩
      · refine go_zt hX 35 c_147 rfl rfl hc11 ?_
        refine go_adv hX c_147 2 (F2 := (37, [.int x2, .int x1], [(0, .ref x0), (1, .int x1), (2, .int x2), (3, .int x3)], v6.2)) rfl ?_
        rcases mm_ite hF with ⟨hc12, hF⟩ | ⟨hc12, hF⟩
        · refine go_ct hX 47 c_147 rfl rfl hc12 ?_
          refine go_adv hX c_147 3 (F2 := (50, [.int x2, .int x1, .ref x0], [(0, .ref x0), (1, .int x1), (2, .int x2), (3, .int x3)], v6.2)) rfl ?_
          obtain ⟨_, e13, hF⟩ := mm_bind hF
          obtain ⟨v14, e15, hF⟩ := mm_bind hF
          refine go_cV hX (As := [.int x1, .int x2]) (rv := some (.int v14)) (h2 := v6.2) (ci := 6) c_147 rfl (Nat.le_of_ble_eq_true rfl) rfl rfl e13 (by decide) (Nat.le_of_ble_eq_true rfl) (fun Q2 hQ2 => r_X6_stairBetween hX (d := d) e15 hQ2) ?_
          rcases mm_ite hF with ⟨hc16, hF⟩ | ⟨hc16, hF⟩
          · refine go_zt hX 68 c_147 rfl rfl hc16 ?_
            refine go_adv hX c_147 1 (F2 := (69, [.ref x0], [(0, .ref x0), (1, .int x1), (2, .int x2), (3, .int x3)], v6.2)) rfl ?_
            obtain ⟨v17, e18, hF⟩ := mm_bind hF
            refine go_gR hX c_147 rfl e18 ?_
            refine go_adv hX c_147 1 (F2 := (73, [.int (ki 0), .ref v17], [(0, .ref x0), (1, .int x1), (2, .int x2), (3, .int x3)], v6.2)) rfl ?_
            obtain ⟨v19, e20, hF⟩ := mm_bind hF
            refine go_aI hX c_147 rfl e20 ?_
            refine go_adv hX c_147 1 (F2 := (76, [.int (kb 10), .int v19], [(0, .ref x0), (1, .int x1), (2, .int x2), (3, .int x3)], v6.2)) rfl ?_
            rcases mm_ite hF with ⟨hc21, hF⟩ | ⟨hc21, hF⟩
            · refine go_ct hX 93 c_147 rfl rfl hc21 ?_
              refine go_adv hX c_147 1 (F2 := (94, [.int (ki 0)], [(0, .ref x0), (1, .int x1), (2, .int x2), (3, .int x3)], v6.2)) rfl ?_
              cases hF
              exact go_iret hX c_147 rfl rfl (by decide) hQ
            · refine go_cf hX c_147 rfl (by decide) hc21 ?_
              refine go_adv hX c_147 3 (F2 := (83, [.int (kb 10), .int (ki 1), .ref x0], [(0, .ref x0), (1, .int x1), (2, .int x2), (3, .int x3)], v6.2)) rfl ?_
              obtain ⟨_, e22, hF⟩ := mm_bind hF
              obtain ⟨v23, e24, hF⟩ := mm_bind hF
              refine go_cV hX (As := [.int (ki 1), .int (kb 10)]) (rv := some (.int v23.1)) (h2 := v23.2) (ci := 6) c_147 rfl (Nat.le_of_ble_eq_true rfl) rfl rfl e22 (by decide) (Nat.le_of_ble_eq_true rfl) (fun Q2 hQ2 => r_X6_isBad hX (d := (d + 2)) e24 hQ2) ?_
              rcases mm_ite hF with ⟨hc25, hF⟩ | ⟨hc25, hF⟩
              · refine go_zt hX 93 c_147 rfl rfl hc25 ?_
                refine go_adv hX c_147 1 (F2 := (94, [.int (ki 0)], [(0, .ref x0), (1, .int x1), (2, .int x2), (3, .int x3)], v23.2)) rfl ?_
                cases hF
                exact go_iret hX c_147 rfl rfl (by decide) hQ
              · refine go_zf hX c_147 rfl (by decide) hc25 ?_
                refine go_adv hX c_147 1 (F2 := (90, [.int (ki 1)], [(0, .ref x0), (1, .int x1), (2, .int x2), (3, .int x3)], v23.2)) rfl ?_
                refine go_to hX 94 c_147 rfl rfl ?_
                cases hF
                exact go_iret hX c_147 rfl rfl (by decide) hQ
          · refine go_zf hX c_147 rfl (by decide) hc16 ?_
            refine go_adv hX c_147 5 (F2 := (61, [.int x2, .int x1, .ref x0, .int (ki 5), .ref x0], [(0, .ref x0), (1, .int x1), (2, .int x2), (3, .int x3)], v6.2)) rfl ?_
            obtain ⟨_, e26, hF⟩ := mm_bind hF
            obtain ⟨v27, e28, hF⟩ := mm_bind hF
            refine go_cV hX (As := [.int x1, .int x2]) (rv := some (.int v27)) (h2 := v6.2) (ci := 6) c_147 rfl (Nat.le_of_ble_eq_true rfl) rfl rfl e26 (by decide) (Nat.le_of_ble_eq_true rfl) (fun Q2 hQ2 => r_X6_stairBetween hX (d := d) e28 hQ2) ?_
            obtain ⟨_, e29, hF⟩ := mm_bind hF
            obtain ⟨v30, e31, hF⟩ := mm_bind hF
            refine go_cV hX (As := [.int (ki 5), .int v27]) (rv := some (.int v30.1)) (h2 := v30.2) (ci := 6) c_147 rfl (Nat.le_of_ble_eq_true rfl) rfl rfl e29 (by decide) (Nat.le_of_ble_eq_true rfl) (fun Q2 hQ2 => r_X6_isBad hX (d := (d + 2)) e31 hQ2) ?_
            obtain ⟨v32, e33, hF⟩ := mm_bind hF
            obtain ⟨rfl, e33n⟩ := fx_nar_s e33
            cases hF
            exact go_iret hX c_147 rfl rfl e33n hQ
        · refine go_cf hX c_147 rfl (by decide) hc12 ?_
          refine go_adv hX c_147 3 (F2 := (43, [.int x1, .int (ki 4), .ref x0], [(0, .ref x0), (1, .int x1), (2, .int x2), (3, .int x3)], v6.2)) rfl ?_
          obtain ⟨_, e34, hF⟩ := mm_bind hF
          obtain ⟨v35, e36, hF⟩ := mm_bind hF
          refine go_cV hX (As := [.int (ki 4), .int x1]) (rv := some (.int v35.1)) (h2 := v35.2) (ci := 6) c_147 rfl (Nat.le_of_ble_eq_true rfl) rfl rfl e34 (by decide) (Nat.le_of_ble_eq_true rfl) (fun Q2 hQ2 => r_X6_isBad hX (d := (d + 2)) e36 hQ2) ?_
          obtain ⟨v37, e38, hF⟩ := mm_bind hF
          obtain ⟨rfl, e38n⟩ := fx_nar_s e38
          cases hF
          exact go_iret hX c_147 rfl rfl e38n hQ
      · refine go_zf hX c_147 rfl (by decide) hc11 ?_
        refine go_adv hX c_147 3 (F2 := (31, [.int x3, .int (ki 3), .ref x0], [(0, .ref x0), (1, .int x1), (2, .int x2), (3, .int x3)], v6.2)) rfl ?_
        obtain ⟨_, e39, hF⟩ := mm_bind hF
        obtain ⟨v40, e41, hF⟩ := mm_bind hF
        refine go_cV hX (As := [.int (ki 3), .int x3]) (rv := some (.int v40.1)) (h2 := v40.2) (ci := 6) c_147 rfl (Nat.le_of_ble_eq_true rfl) rfl rfl e39 (by decide) (Nat.le_of_ble_eq_true rfl) (fun Q2 hQ2 => r_X6_isBad hX (d := (d + 2)) e41 hQ2) ?_
        obtain ⟨v42, e43, hF⟩ := mm_bind hF
        obtain ⟨rfl, e43n⟩ := fx_nar_s e43
        cases hF
        exact go_iret hX c_147 rfl rfl e43n hQ
    · refine go_zf hX c_147 rfl (by decide) hc8 ?_
      refine go_adv hX c_147 1 (F2 := (17, [.int (ki 1)], [(0, .ref x0), (1, .int x1), (2, .int x2), (3, .int x3)], v6.2)) rfl ?_
      cases hF
      exact go_iret hX c_147 rfl rfl (by decide) hQ
theorem c_148 : mm_cd 148 = k_X6_builds := rfl
def F_X6_builds_L11 : Nat → Nat → Int32 → Int32 → Int32 → Int32 → Int32 → mm_S → Option mm_S
  | 0, _, _, _, _, _, _, _ => none
  | n + 1, x0, x1, x2, x3, x4, x5, h =>
    if (kb 7) ≤ x5 then
      some h
    else
      (fx_is h x0 6).bind fun _ =>
      (F_X6_ls h x0 x4 x5 (ki 0)).bind fun v7 =>
      F_X6_builds_L11 n x0 x1 x2 x3 x4 (x5 + ki 1) v7
def F_X6_builds_B64 (h : mm_S) (s0 : Int32) (s1 : Int32) (s2 : Int32) (s3 : Nat) (x0 : Nat) (x3 : Int32) (x4 : Int32) : Option (Int32 × mm_S) :=
  (fx_is h s3 6).bind fun _ =>
  (F_X6_ls h s3 s2 s1 s0).bind fun v17 =>
  (fx_is v17 x0 6).bind fun _ =>
  (F_X6_ls v17 x0 x4 (ki 2) x3).bind fun v20 =>
  (fx_is v20 x0 6).bind fun _ =>
  (F_X6_ls v20 x0 x4 (ki 5) (ki (-1))).bind fun v23 =>
  (fx_gR v23 x0 6 0).bind fun v25 =>
  (fx_aI v23 v25 (ki 0)).bind fun v27 =>
  (fx_sI v23 v25 (ki 0) (v27 + (ki 1))).bind fun h29 =>
  some (x4, h29)
def F_X6_builds_B47 (h : mm_S) (s0 : Int32) (s1 : Int32) (s2 : Int32) (s3 : Nat) (x0 : Nat) (x1 : Int32) (x2 : Int32) (x3 : Int32) (x4 : Int32) : Option (Int32 × mm_S) :=
  (fx_is h s3 6).bind fun _ =>
  (F_X6_ls h s3 s2 s1 s0).bind fun v13 =>
  if x2 ≤ x1 then
    F_X6_builds_B64 v13 x1 (ki 1) x4 x0 x0 x3 x4
  else
    F_X6_builds_B64 v13 x2 (ki 1) x4 x0 x0 x3 x4
def F_X6_builds (h : mm_S) (x0 : Nat) (x1 : Int32) (x2 : Int32) (x3 : Int32) : Option (Int32 × mm_S) :=
  (fx_gR h x0 6 0).bind fun v1 =>
  (fx_aI h v1 (ki 0)).bind fun v3 =>
  (F_X6_builds_L11 1000 x0 x1 x2 x3 v3 (ki 0) h).bind fun o9 =>
  if x2 ≤ x1 then
    F_X6_builds_B47 o9 x2 (ki 0) v3 x0 x0 x1 x2 x3 v3
  else
    F_X6_builds_B47 o9 x1 (ki 0) v3 x0 x0 x1 x2 x3 v3
theorem r_X6_builds_L11 {X : mm_Cl} (hX : mm_mono X) {d c k : Nat} {Q : mm_Re → Prop} : ∀ (n : Nat) (x0 : Nat) (x1 : Int32) (x2 : Int32) (x3 : Int32) (x4 : Int32) (x5 : Int32) (h : mm_S) (o : mm_S), F_X6_builds_L11 n x0 x1 x2 x3 x4 x5 h = some o → (mm_Ex (mm_Run X (d + 1)) 148 Q (33, [], [(0, .ref x0), (1, .int x1), (2, .int x2), (3, .int x3), (4, .int x4)], o) c k) → mm_Ex (mm_Run X (d + 1)) 148 Q (11, [], [(0, .ref x0), (1, .int x1), (2, .int x2), (3, .int x3), (4, .int x4), (5, .int x5)], h) c k := by
  intro n
  induction n with
  | zero => intro x0 x1 x2 x3 x4 x5 h o hF; cases hF
  | succ n ih =>
    intro x0 x1 x2 x3 x4 x5 h o hF hE
    unfold F_X6_builds_L11 at hF
    refine go_adv hX c_148 2 (F2 := (15, [.int (kb 7), .int x5], [(0, .ref x0), (1, .int x1), (2, .int x2), (3, .int x3), (4, .int x4), (5, .int x5)], h)) rfl ?_
    rcases mm_ite hF with ⟨hc5, hF⟩ | ⟨hc5, hF⟩
    · refine go_ct hX 33 c_148 rfl rfl hc5 ?_
      cases hF
      refine go_ls [(0, .ref x0), (1, .int x1), (2, .int x2), (3, .int x3), (4, .int x4)] ⟨rfl, ⟨rfl, ⟨rfl, ⟨rfl, ⟨rfl, trivial⟩⟩⟩⟩⟩ ?_
      exact hE
    · refine go_cf hX c_148 rfl (by decide) hc5 ?_
      refine go_adv hX c_148 4 (F2 := (24, [.int (ki 0), .int x5, .int x4, .ref x0], [(0, .ref x0), (1, .int x1), (2, .int x2), (3, .int x3), (4, .int x4), (5, .int x5)], h)) rfl ?_
      obtain ⟨_, e6, hF⟩ := mm_bind hF
      obtain ⟨v7, e8, hF⟩ := mm_bind hF
      refine go_cV hX (As := [.int x4, .int x5, .int (ki 0)]) (rv := none) (h2 := v7) (ci := 6) c_148 rfl (Nat.le_of_ble_eq_true rfl) rfl rfl e6 (by decide) (Nat.le_of_ble_eq_true rfl) (fun Q2 hQ2 => r_X6_ls hX (d := d) e8 hQ2) ?_
      refine go_adv hX c_148 1 (F2 := (30, [], [(5, .int (x5 + ki 1)), (0, .ref x0), (1, .int x1), (2, .int x2), (3, .int x3), (4, .int x4)], v7)) rfl ?_
      refine go_to hX 11 c_148 rfl rfl ?_
      refine go_ls [(0, .ref x0), (1, .int x1), (2, .int x2), (3, .int x3), (4, .int x4), (5, .int (x5 + ki 1))] ⟨rfl, ⟨rfl, ⟨rfl, ⟨rfl, ⟨rfl, ⟨rfl, trivial⟩⟩⟩⟩⟩⟩ ?_
      exact ih x0 x1 x2 x3 x4 (x5 + ki 1) v7 _ hF hE
theorem r_X6_builds_B64 {X : mm_Cl} (hX : mm_mono X) {d c k : Nat} {Q : mm_Re → Prop} {h : mm_S} {s0 : Int32} {s1 : Int32} {s2 : Int32} {s3 : Nat} {x0 : Nat} {x3 : Int32} {x4 : Int32} {o : (Int32 × mm_S)} (hF : F_X6_builds_B64 h s0 s1 s2 s3 x0 x3 x4 = some o) (hQ : Q (.inl (some (.int o.1)), o.2)) : mm_Ex (mm_Run X (d + 1)) 148 Q (64, [.int s0, .int s1, .int s2, .ref s3], [(0, .ref x0), (3, .int x3), (4, .int x4)], h) c k := by
  unfold F_X6_builds_B64 at hF
  obtain ⟨_, e16, hF⟩ := mm_bind hF
  obtain ⟨v17, e18, hF⟩ := mm_bind hF
  refine go_cV hX (As := [.int s2, .int s1, .int s0]) (rv := none) (h2 := v17) (ci := 6) c_148 rfl (Nat.le_of_ble_eq_true rfl) rfl rfl e16 (by decide) (Nat.le_of_ble_eq_true rfl) (fun Q2 hQ2 => r_X6_ls hX (d := d) e18 hQ2) ?_
  refine go_adv hX c_148 4 (F2 := (72, [.int x3, .int (ki 2), .int x4, .ref x0], [(0, .ref x0), (3, .int x3), (4, .int x4)], v17)) rfl ?_
  obtain ⟨_, e19, hF⟩ := mm_bind hF
  obtain ⟨v20, e21, hF⟩ := mm_bind hF
  refine go_cV hX (As := [.int x4, .int (ki 2), .int x3]) (rv := none) (h2 := v20) (ci := 6) c_148 rfl (Nat.le_of_ble_eq_true rfl) rfl rfl e19 (by decide) (Nat.le_of_ble_eq_true rfl) (fun Q2 hQ2 => r_X6_ls hX (d := d) e21 hQ2) ?_
  refine go_adv hX c_148 4 (F2 := (80, [.int (ki (-1)), .int (ki 5), .int x4, .ref x0], [(0, .ref x0), (3, .int x3), (4, .int x4)], v20)) rfl ?_
  obtain ⟨_, e22, hF⟩ := mm_bind hF
  obtain ⟨v23, e24, hF⟩ := mm_bind hF
  refine go_cV hX (As := [.int x4, .int (ki 5), .int (ki (-1))]) (rv := none) (h2 := v23) (ci := 6) c_148 rfl (Nat.le_of_ble_eq_true rfl) rfl rfl e22 (by decide) (Nat.le_of_ble_eq_true rfl) (fun Q2 hQ2 => r_X6_ls hX (d := d) e24 hQ2) ?_
  refine go_adv hX c_148 1 (F2 := (84, [.ref x0], [(0, .ref x0), (3, .int x3), (4, .int x4)], v23)) rfl ?_
  obtain ⟨v25, e26, hF⟩ := mm_bind hF
  refine go_gR hX c_148 rfl e26 ?_
  refine go_adv hX c_148 1 (F2 := (88, [.int (ki 0), .ref v25], [(0, .ref x0), (3, .int x3), (4, .int x4)], v23)) rfl ?_
  refine go_p hX c_148 rfl rfl ⟨rfl, rfl⟩ ?_
  obtain ⟨v27, e28, hF⟩ := mm_bind hF
  refine go_aI hX c_148 rfl e28 ?_
  refine go_adv hX c_148 2 (F2 := (92, [.int (v27 + (ki 1)), .int (ki 0), .ref v25], [(0, .ref x0), (3, .int x3), (4, .int x4)], v23)) rfl ?_
  obtain ⟨h29, e30, hF⟩ := mm_bind hF
  refine go_sI hX c_148 rfl e30 ?_
  refine go_adv hX c_148 1 (F2 := (95, [.int x4], [(0, .ref x0), (3, .int x3), (4, .int x4)], h29)) rfl ?_
  cases hF
  exact go_iret hX c_148 rfl rfl rfl hQ
theorem r_X6_builds_B47 {X : mm_Cl} (hX : mm_mono X) {d c k : Nat} {Q : mm_Re → Prop} {h : mm_S} {s0 : Int32} {s1 : Int32} {s2 : Int32} {s3 : Nat} {x0 : Nat} {x1 : Int32} {x2 : Int32} {x3 : Int32} {x4 : Int32} {o : (Int32 × mm_S)} (hF : F_X6_builds_B47 h s0 s1 s2 s3 x0 x1 x2 x3 x4 = some o) (hQ : Q (.inl (some (.int o.1)), o.2)) : mm_Ex (mm_Run X (d + 1)) 148 Q (47, [.int s0, .int s1, .int s2, .ref s3], [(0, .ref x0), (1, .int x1), (2, .int x2), (3, .int x3), (4, .int x4)], h) c k := by
  unfold F_X6_builds_B47 at hF
  obtain ⟨_, e12, hF⟩ := mm_bind hF
  obtain ⟨v13, e14, hF⟩ := mm_bind hF
  refine go_cV hX (As := [.int s2, .int s1, .int s0]) (rv := none) (h2 := v13) (ci := 6) c_148 rfl (Nat.le_of_ble_eq_true rfl) rfl rfl e12 (by decide) (Nat.le_of_ble_eq_true rfl) (fun Q2 hQ2 => r_X6_ls hX (d := d) e14 hQ2) ?_
  refine go_adv hX c_148 5 (F2 := (56, [.int x2, .int x1, .int (ki 1), .int x4, .ref x0], [(0, .ref x0), (1, .int x1), (2, .int x2), (3, .int x3), (4, .int x4)], v13)) rfl ?_
  rcases mm_ite hF with ⟨hc15, hF⟩ | ⟨hc15, hF⟩
  · refine go_ct hX 63 c_148 rfl rfl hc15 ?_
    refine go_adv hX c_148 1 (F2 := (64, [.int x1, .int (ki 1), .int x4, .ref x0], [(0, .ref x0), (1, .int x1), (2, .int x2), (3, .int x3), (4, .int x4)], v13)) rfl ?_
    refine go_ls [(0, .ref x0), (3, .int x3), (4, .int x4)] ⟨rfl, ⟨rfl, ⟨rfl, trivial⟩⟩⟩ ?_
    exact r_X6_builds_B64 hX hF hQ
  · refine go_cf hX c_148 rfl (by decide) hc15 ?_
    refine go_adv hX c_148 1 (F2 := (60, [.int x2, .int (ki 1), .int x4, .ref x0], [(0, .ref x0), (1, .int x1), (2, .int x2), (3, .int x3), (4, .int x4)], v13)) rfl ?_
    refine go_to hX 64 c_148 rfl rfl ?_
    refine go_ls [(0, .ref x0), (3, .int x3), (4, .int x4)] ⟨rfl, ⟨rfl, ⟨rfl, trivial⟩⟩⟩ ?_
    exact r_X6_builds_B64 hX hF hQ
theorem r_X6_builds {X : mm_Cl} (hX : mm_mono X) {d c k : Nat} {Q : mm_Re → Prop} {h : mm_S} {x0 : Nat} {x1 : Int32} {x2 : Int32} {x3 : Int32} {o : (Int32 × mm_S)} (hF : F_X6_builds h x0 x1 x2 x3 = some o) (hQ : Q (.inl (some (.int o.1)), o.2)) : mm_Run X (d + 2) 148 c k [.ref x0, .int x1, .int x2, .int x3] h Q := by
  unfold F_X6_builds at hF
  refine mm_Run_in (by decide) (by decide) (Nat.le_of_ble_eq_true rfl) ?_
  show mm_Ex (mm_Run X (d + 1)) 148 Q (0, [], [(0, .ref x0), (1, .int x1), (2, .int x2), (3, .int x3)], h) c k
  refine go_adv hX c_148 1 (F2 := (1, [.ref x0], [(0, .ref x0), (1, .int x1), (2, .int x2), (3, .int x3)], h)) rfl ?_
  obtain ⟨v1, e2, hF⟩ := mm_bind hF
  refine go_gR hX c_148 rfl e2 ?_
  refine go_adv hX c_148 1 (F2 := (5, [.int (ki 0), .ref v1], [(0, .ref x0), (1, .int x1), (2, .int x2), (3, .int x3)], h)) rfl ?_
  obtain ⟨v3, e4, hF⟩ := mm_bind hF
  refine go_aI hX c_148 rfl e4 ?_
  refine go_adv hX c_148 3 (F2 := (11, [], [(5, .int (ki 0)), (4, .int v3), (0, .ref x0), (1, .int x1), (2, .int x2), (3, .int x3)], h)) rfl ?_
  refine go_ls [(0, .ref x0), (1, .int x1), (2, .int x2), (3, .int x3), (4, .int v3), (5, .int (ki 0))] ⟨rfl, ⟨rfl, ⟨rfl, ⟨rfl, ⟨rfl, ⟨rfl, trivial⟩⟩⟩⟩⟩⟩ ?_
  obtain ⟨o9, e10, hF⟩ := mm_bind hF
  refine r_X6_builds_L11 hX 1000 x0 x1 x2 x3 v3 (ki 0) h o9 e10 ?_
  refine go_adv hX c_148 5 (F2 := (39, [.int x2, .int x1, .int (ki 0), .int v3, .ref x0], [(0, .ref x0), (1, .int x1), (2, .int x2), (3, .int x3), (4, .int v3)], o9)) rfl ?_
  rcases mm_ite hF with ⟨hc11, hF⟩ | ⟨hc11, hF⟩
  · refine go_ct hX 46 c_148 rfl rfl hc11 ?_
    refine go_adv hX c_148 1 (F2 := (47, [.int x2, .int (ki 0), .int v3, .ref x0], [(0, .ref x0), (1, .int x1), (2, .int x2), (3, .int x3), (4, .int v3)], o9)) rfl ?_
    refine go_ls [(0, .ref x0), (1, .int x1), (2, .int x2), (3, .int x3), (4, .int v3)] ⟨rfl, ⟨rfl, ⟨rfl, ⟨rfl, ⟨rfl, trivial⟩⟩⟩⟩⟩ ?_
    exact r_X6_builds_B47 hX hF hQ
  · refine go_cf hX c_148 rfl (by decide) hc11 ?_
    refine go_adv hX c_148 1 (F2 := (43, [.int x1, .int (ki 0), .int v3, .ref x0], [(0, .ref x0), (1, .int x1), (2, .int x2), (3, .int x3), (4, .int v3)], o9)) rfl ?_
    refine go_to hX 47 c_148 rfl rfl ?_
    refine go_ls [(0, .ref x0), (1, .int x1), (2, .int x2), (3, .int x3), (4, .int v3)] ⟨rfl, ⟨rfl, ⟨rfl, ⟨rfl, ⟨rfl, trivial⟩⟩⟩⟩⟩ ?_
    exact r_X6_builds_B47 hX hF hQ
theorem c_149 : mm_cd 149 = k_X6_build := rfl
def F_X6_build (h : mm_S) (x0 : Nat) (x1 : Int32) (x2 : Int32) (x3 : Int32) : Option (Int32 × mm_S) :=
  (fx_is h x0 6).bind fun _ =>
  (F_X6_begins h x0).bind fun v2 =>
  (fx_is v2 x0 6).bind fun _ =>
  (F_X6_isRefusedBuild v2 x0 x1 x2 x3).bind fun v5 =>
  if v5.1 = 0 then
    (fx_is v5.2 x0 6).bind fun _ =>
    (F_X6_builds v5.2 x0 x1 x2 x3).bind fun v9 =>
    (fx_is v9.2 x0 6).bind fun _ =>
    (F_X6_keeps v9.2 x0 v9.1).bind fun v12 =>
    some (v12.1, v12.2)
  else
    (fx_is v5.2 x0 6).bind fun _ =>
    (F_X6_refused v5.2 x0).bind fun v15 =>
    some (v15.1, v15.2)
theorem r_X6_build {X : mm_Cl} (hX : mm_mono X) {d c k : Nat} {Q : mm_Re → Prop} {h : mm_S} {x0 : Nat} {x1 : Int32} {x2 : Int32} {x3 : Int32} {o : (Int32 × mm_S)} (hF : F_X6_build h x0 x1 x2 x3 = some o) (hQ : Q (.inl (some (.int o.1)), o.2)) : mm_Run X (d + 5) 149 c k [.ref x0, .int x1, .int x2, .int x3] h Q := by
  unfold F_X6_build at hF
  refine mm_Run_in (by decide) (by decide) (Nat.le_of_ble_eq_true rfl) ?_
  show mm_Ex (mm_Run X (d + 4)) 149 Q (0, [], [(0, .ref x0), (1, .int x1), (2, .int x2), (3, .int x3)], h) c k
  refine go_adv hX c_149 1 (F2 := (1, [.ref x0], [(0, .ref x0), (1, .int x1), (2, .int x2), (3, .int x3)], h)) rfl ?_
  obtain ⟨_, e1, hF⟩ := mm_bind hF
  obtain ⟨v2, e3, hF⟩ := mm_bind hF
  refine go_cV hX (As := []) (rv := none) (h2 := v2) (ci := 6) c_149 rfl (Nat.le_of_ble_eq_true rfl) rfl rfl e1 (by decide) (Nat.le_of_ble_eq_true rfl) (fun Q2 hQ2 => r_X6_begins hX (d := (d + 2)) e3 hQ2) ?_
  refine go_adv hX c_149 4 (F2 := (8, [.int x3, .int x2, .int x1, .ref x0], [(0, .ref x0), (1, .int x1), (2, .int x2), (3, .int x3)], v2)) rfl ?_
  obtain ⟨_, e4, hF⟩ := mm_bind hF
  obtain ⟨v5, e6, hF⟩ := mm_bind hF
  refine go_cV hX (As := [.int x1, .int x2, .int x3]) (rv := some (.int v5.1)) (h2 := v5.2) (ci := 6) c_149 rfl (Nat.le_of_ble_eq_true rfl) rfl rfl e4 (by decide) (Nat.le_of_ble_eq_true rfl) (fun Q2 hQ2 => r_X6_isRefusedBuild hX (d := d) e6 hQ2) ?_
  rcases mm_ite hF with ⟨hc7, hF⟩ | ⟨hc7, hF⟩
  · refine go_zt hX 21 c_149 rfl rfl hc7 ?_
    refine go_adv hX c_149 5 (F2 := (26, [.int x3, .int x2, .int x1, .ref x0, .ref x0], [(0, .ref x0), (1, .int x1), (2, .int x2), (3, .int x3)], v5.2)) rfl ?_
    obtain ⟨_, e8, hF⟩ := mm_bind hF
    obtain ⟨v9, e10, hF⟩ := mm_bind hF
    refine go_cV hX (As := [.int x1, .int x2, .int x3]) (rv := some (.int v9.1)) (h2 := v9.2) (ci := 6) c_149 rfl (Nat.le_of_ble_eq_true rfl) rfl rfl e8 (by decide) (Nat.le_of_ble_eq_true rfl) (fun Q2 hQ2 => r_X6_builds hX (d := (d + 2)) e10 hQ2) ?_
    obtain ⟨_, e11, hF⟩ := mm_bind hF
    obtain ⟨v12, e13, hF⟩ := mm_bind hF
    refine go_cV hX (As := [.int v9.1]) (rv := some (.int v12.1)) (h2 := v12.2) (ci := 6) c_149 rfl (Nat.le_of_ble_eq_true rfl) rfl rfl e11 (by decide) (Nat.le_of_ble_eq_true rfl) (fun Q2 hQ2 => r_X6_keeps hX (d := (d + 2)) e13 hQ2) ?_
    cases hF
    exact go_iret hX c_149 rfl rfl rfl hQ
  · refine go_zf hX c_149 rfl (by decide) hc7 ?_
    refine go_adv hX c_149 1 (F2 := (15, [.ref x0], [(0, .ref x0), (1, .int x1), (2, .int x2), (3, .int x3)], v5.2)) rfl ?_
    obtain ⟨_, e14, hF⟩ := mm_bind hF
    obtain ⟨v15, e16, hF⟩ := mm_bind hF
    refine go_cV hX (As := []) (rv := some (.int v15.1)) (h2 := v15.2) (ci := 6) c_149 rfl (Nat.le_of_ble_eq_true rfl) rfl rfl e14 (by decide) (Nat.le_of_ble_eq_true rfl) (fun Q2 hQ2 => r_X6_refused hX (d := (d + 2)) e16 hQ2) ?_
    refine go_to hX 32 c_149 rfl rfl ?_
    cases hF
    exact go_iret hX c_149 rfl rfl rfl hQ
theorem c_150 : mm_cd 150 = k_X6_tears := rfl
def F_X6_tears_L25 : Nat → Nat → Int32 → Int32 → mm_S → Option mm_S
  | 0, _, _, _, _ => none
  | n + 1, x0, x2, x3, h =>
    if ((kb 34) + ((kb 7) * x2)) ≤ x3 then
      some h
    else
      (fx_gR h x0 6 0).bind fun v12 =>
      (fx_gR h x0 6 0).bind fun v14 =>
      (fx_aI h v14 (x3 + (kb 7))).bind fun v16 =>
      (fx_sI h v12 x3 v16).bind fun h18 =>
      F_X6_tears_L25 n x0 x2 (x3 + ki 1) h18
def F_X6_tears_L59 : Nat → Nat → Int32 → Int32 → mm_S → Option mm_S
  | 0, _, _, _, _ => none
  | n + 1, x0, x2, x3, h =>
    if (kb 7) ≤ x3 then
      some h
    else
      (fx_is h x0 6).bind fun _ =>
      (F_X6_ls h x0 x2 x3 (ki 0)).bind fun v24 =>
      F_X6_tears_L59 n x0 x2 (x3 + ki 1) v24
def F_X6_tears (h : mm_S) (x0 : Nat) (x1 : Int32) : Option (Int32 × mm_S) :=
  (fx_gR h x0 6 0).bind fun v1 =>
  (fx_aI h v1 (ki 0)).bind fun v3 =>
  (fx_sI h v1 (ki 0) (v3 - (ki 1))).bind fun h5 =>
  (fx_gR h5 x0 6 0).bind fun v7 =>
  (fx_aI h5 v7 (ki 0)).bind fun v9 =>
  (F_X6_tears_L25 1000 x0 v9 ((kb 34) + ((kb 7) * x1)) h5).bind fun o20 =>
  (F_X6_tears_L59 1000 x0 v9 (ki 0) o20).bind fun o26 =>
  some (v9, o26)
theorem r_X6_tears_L25 {X : mm_Cl} (hX : mm_mono X) {d c k : Nat} {Q : mm_Re → Prop} : ∀ (n : Nat) (x0 : Nat) (x2 : Int32) (x3 : Int32) (h : mm_S) (o : mm_S), F_X6_tears_L25 n x0 x2 x3 h = some o → (mm_Ex (mm_Run X (d + 1)) 150 Q (57, [], [(0, .ref x0), (2, .int x2)], o) c k) → mm_Ex (mm_Run X (d + 1)) 150 Q (25, [], [(0, .ref x0), (2, .int x2), (3, .int x3)], h) c k := by
  intro n
  induction n with
  | zero => intro x0 x2 x3 h o hF; cases hF
  | succ n ih =>
    intro x0 x2 x3 h o hF hE
    unfold F_X6_tears_L25 at hF
    refine go_adv hX c_150 6 (F2 := (33, [.int ((kb 34) + ((kb 7) * x2)), .int x3], [(0, .ref x0), (2, .int x2), (3, .int x3)], h)) rfl ?_
    rcases mm_ite hF with ⟨hc11, hF⟩ | ⟨hc11, hF⟩
    · refine go_ct hX 57 c_150 rfl rfl hc11 ?_
      cases hF
      refine go_ls [(0, .ref x0), (2, .int x2)] ⟨rfl, ⟨rfl, trivial⟩⟩ ?_
      exact hE
    · refine go_cf hX c_150 rfl (by decide) hc11 ?_
      refine go_adv hX c_150 1 (F2 := (37, [.ref x0], [(0, .ref x0), (2, .int x2), (3, .int x3)], h)) rfl ?_
      obtain ⟨v12, e13, hF⟩ := mm_bind hF
      refine go_gR hX c_150 rfl e13 ?_
      refine go_adv hX c_150 2 (F2 := (42, [.ref x0, .int x3, .ref v12], [(0, .ref x0), (2, .int x2), (3, .int x3)], h)) rfl ?_
      obtain ⟨v14, e15, hF⟩ := mm_bind hF
      refine go_gR hX c_150 rfl e15 ?_
      refine go_adv hX c_150 3 (F2 := (49, [.int (x3 + (kb 7)), .ref v14, .int x3, .ref v12], [(0, .ref x0), (2, .int x2), (3, .int x3)], h)) rfl ?_
      obtain ⟨v16, e17, hF⟩ := mm_bind hF
      refine go_aI hX c_150 rfl e17 ?_
      obtain ⟨h18, e19, hF⟩ := mm_bind hF
      refine go_sI hX c_150 rfl e19 ?_
      refine go_adv hX c_150 1 (F2 := (54, [], [(3, .int (x3 + ki 1)), (0, .ref x0), (2, .int x2)], h18)) rfl ?_
      refine go_to hX 25 c_150 rfl rfl ?_
      refine go_ls [(0, .ref x0), (2, .int x2), (3, .int (x3 + ki 1))] ⟨rfl, ⟨rfl, ⟨rfl, trivial⟩⟩⟩ ?_
      exact ih x0 x2 (x3 + ki 1) h18 _ hF hE
theorem r_X6_tears_L59 {X : mm_Cl} (hX : mm_mono X) {d c k : Nat} {Q : mm_Re → Prop} : ∀ (n : Nat) (x0 : Nat) (x2 : Int32) (x3 : Int32) (h : mm_S) (o : mm_S), F_X6_tears_L59 n x0 x2 x3 h = some o → (mm_Ex (mm_Run X (d + 1)) 150 Q (78, [], [(2, .int x2)], o) c k) → mm_Ex (mm_Run X (d + 1)) 150 Q (59, [], [(0, .ref x0), (2, .int x2), (3, .int x3)], h) c k := by
  intro n
  induction n with
  | zero => intro x0 x2 x3 h o hF; cases hF
  | succ n ih =>
    intro x0 x2 x3 h o hF hE
    unfold F_X6_tears_L59 at hF
    refine go_adv hX c_150 2 (F2 := (62, [.int (kb 7), .int x3], [(0, .ref x0), (2, .int x2), (3, .int x3)], h)) rfl ?_
    rcases mm_ite hF with ⟨hc22, hF⟩ | ⟨hc22, hF⟩
    · refine go_ct hX 78 c_150 rfl rfl hc22 ?_
      cases hF
      refine go_ls [(2, .int x2)] ⟨rfl, trivial⟩ ?_
      exact hE
    · refine go_cf hX c_150 rfl (by decide) hc22 ?_
      refine go_adv hX c_150 4 (F2 := (69, [.int (ki 0), .int x3, .int x2, .ref x0], [(0, .ref x0), (2, .int x2), (3, .int x3)], h)) rfl ?_
      obtain ⟨_, e23, hF⟩ := mm_bind hF
      obtain ⟨v24, e25, hF⟩ := mm_bind hF
      refine go_cV hX (As := [.int x2, .int x3, .int (ki 0)]) (rv := none) (h2 := v24) (ci := 6) c_150 rfl (Nat.le_of_ble_eq_true rfl) rfl rfl e23 (by decide) (Nat.le_of_ble_eq_true rfl) (fun Q2 hQ2 => r_X6_ls hX (d := d) e25 hQ2) ?_
      refine go_adv hX c_150 1 (F2 := (75, [], [(3, .int (x3 + ki 1)), (0, .ref x0), (2, .int x2)], v24)) rfl ?_
      refine go_to hX 59 c_150 rfl rfl ?_
      refine go_ls [(0, .ref x0), (2, .int x2), (3, .int (x3 + ki 1))] ⟨rfl, ⟨rfl, ⟨rfl, trivial⟩⟩⟩ ?_
      exact ih x0 x2 (x3 + ki 1) v24 _ hF hE
theorem r_X6_tears {X : mm_Cl} (hX : mm_mono X) {d c k : Nat} {Q : mm_Re → Prop} {h : mm_S} {x0 : Nat} {x1 : Int32} {o : (Int32 × mm_S)} (hF : F_X6_tears h x0 x1 = some o) (hQ : Q (.inl (some (.int o.1)), o.2)) : mm_Run X (d + 2) 150 c k [.ref x0, .int x1] h Q := by
  unfold F_X6_tears at hF
  refine mm_Run_in (by decide) (by decide) (Nat.le_of_ble_eq_true rfl) ?_
  show mm_Ex (mm_Run X (d + 1)) 150 Q (0, [], [(0, .ref x0), (1, .int x1)], h) c k
  refine go_adv hX c_150 1 (F2 := (1, [.ref x0], [(0, .ref x0), (1, .int x1)], h)) rfl ?_
  obtain ⟨v1, e2, hF⟩ := mm_bind hF
  refine go_gR hX c_150 rfl e2 ?_
  refine go_adv hX c_150 1 (F2 := (5, [.int (ki 0), .ref v1], [(0, .ref x0), (1, .int x1)], h)) rfl ?_
  refine go_p hX c_150 rfl rfl ⟨rfl, rfl⟩ ?_
  obtain ⟨v3, e4, hF⟩ := mm_bind hF
  refine go_aI hX c_150 rfl e4 ?_
  refine go_adv hX c_150 2 (F2 := (9, [.int (v3 - (ki 1)), .int (ki 0), .ref v1], [(0, .ref x0), (1, .int x1)], h)) rfl ?_
  obtain ⟨h5, e6, hF⟩ := mm_bind hF
  refine go_sI hX c_150 rfl e6 ?_
  refine go_adv hX c_150 1 (F2 := (11, [.ref x0], [(0, .ref x0), (1, .int x1)], h5)) rfl ?_
  obtain ⟨v7, e8, hF⟩ := mm_bind hF
  refine go_gR hX c_150 rfl e8 ?_
  refine go_adv hX c_150 1 (F2 := (15, [.int (ki 0), .ref v7], [(0, .ref x0), (1, .int x1)], h5)) rfl ?_
  obtain ⟨v9, e10, hF⟩ := mm_bind hF
  refine go_aI hX c_150 rfl e10 ?_
  refine go_adv hX c_150 7 (F2 := (25, [], [(3, .int ((kb 34) + ((kb 7) * x1))), (2, .int v9), (0, .ref x0), (1, .int x1)], h5)) rfl ?_
  refine go_ls [(0, .ref x0), (2, .int v9), (3, .int ((kb 34) + ((kb 7) * x1)))] ⟨rfl, ⟨rfl, ⟨rfl, trivial⟩⟩⟩ ?_
  obtain ⟨o20, e21, hF⟩ := mm_bind hF
  refine r_X6_tears_L25 hX 1000 x0 v9 ((kb 34) + ((kb 7) * x1)) h5 o20 e21 ?_
  refine go_adv hX c_150 2 (F2 := (59, [], [(3, .int (ki 0)), (0, .ref x0), (2, .int v9)], o20)) rfl ?_
  refine go_ls [(0, .ref x0), (2, .int v9), (3, .int (ki 0))] ⟨rfl, ⟨rfl, ⟨rfl, trivial⟩⟩⟩ ?_
  obtain ⟨o26, e27, hF⟩ := mm_bind hF
  refine r_X6_tears_L59 hX 1000 x0 v9 (ki 0) o20 o26 e27 ?_
  refine go_adv hX c_150 1 (F2 := (79, [.int v9], [(2, .int v9)], o26)) rfl ?_
  cases hF
  exact go_iret hX c_150 rfl rfl rfl hQ
theorem c_151 : mm_cd 151 = k_X6_tear := rfl
def F_X6_tear (h : mm_S) (x0 : Nat) (x1 : Int32) : Option (Int32 × mm_S) :=
  (fx_is h x0 6).bind fun _ =>
  (F_X6_begins h x0).bind fun v2 =>
  (fx_is v2 x0 6).bind fun _ =>
  (F_X6_isNoStair v2 x0 x1).bind fun v5 =>
  if v5.1 = 0 then
    (fx_is v5.2 x0 6).bind fun _ =>
    (F_X6_tears v5.2 x0 x1).bind fun v9 =>
    (fx_is v9.2 x0 6).bind fun _ =>
    (F_X6_keeps v9.2 x0 v9.1).bind fun v12 =>
    some (v12.1, v12.2)
  else
    (fx_is v5.2 x0 6).bind fun _ =>
    (F_X6_refused v5.2 x0).bind fun v15 =>
    some (v15.1, v15.2)
theorem r_X6_tear {X : mm_Cl} (hX : mm_mono X) {d c k : Nat} {Q : mm_Re → Prop} {h : mm_S} {x0 : Nat} {x1 : Int32} {o : (Int32 × mm_S)} (hF : F_X6_tear h x0 x1 = some o) (hQ : Q (.inl (some (.int o.1)), o.2)) : mm_Run X (d + 4) 151 c k [.ref x0, .int x1] h Q := by
  unfold F_X6_tear at hF
  refine mm_Run_in (by decide) (by decide) (Nat.le_of_ble_eq_true rfl) ?_
  show mm_Ex (mm_Run X (d + 3)) 151 Q (0, [], [(0, .ref x0), (1, .int x1)], h) c k
  refine go_adv hX c_151 1 (F2 := (1, [.ref x0], [(0, .ref x0), (1, .int x1)], h)) rfl ?_
  obtain ⟨_, e1, hF⟩ := mm_bind hF
  obtain ⟨v2, e3, hF⟩ := mm_bind hF
  refine go_cV hX (As := []) (rv := none) (h2 := v2) (ci := 6) c_151 rfl (Nat.le_of_ble_eq_true rfl) rfl rfl e1 (by decide) (Nat.le_of_ble_eq_true rfl) (fun Q2 hQ2 => r_X6_begins hX (d := (d + 1)) e3 hQ2) ?_
  refine go_adv hX c_151 2 (F2 := (6, [.int x1, .ref x0], [(0, .ref x0), (1, .int x1)], v2)) rfl ?_
  obtain ⟨_, e4, hF⟩ := mm_bind hF
  obtain ⟨v5, e6, hF⟩ := mm_bind hF
  refine go_cV hX (As := [.int x1]) (rv := some (.int v5.1)) (h2 := v5.2) (ci := 6) c_151 rfl (Nat.le_of_ble_eq_true rfl) rfl rfl e4 (by decide) (Nat.le_of_ble_eq_true rfl) (fun Q2 hQ2 => r_X6_isNoStair hX (d := d) e6 hQ2) ?_
  rcases mm_ite hF with ⟨hc7, hF⟩ | ⟨hc7, hF⟩
  · refine go_zt hX 19 c_151 rfl rfl hc7 ?_
    refine go_adv hX c_151 3 (F2 := (22, [.int x1, .ref x0, .ref x0], [(0, .ref x0), (1, .int x1)], v5.2)) rfl ?_
    obtain ⟨_, e8, hF⟩ := mm_bind hF
    obtain ⟨v9, e10, hF⟩ := mm_bind hF
    refine go_cV hX (As := [.int x1]) (rv := some (.int v9.1)) (h2 := v9.2) (ci := 6) c_151 rfl (Nat.le_of_ble_eq_true rfl) rfl rfl e8 (by decide) (Nat.le_of_ble_eq_true rfl) (fun Q2 hQ2 => r_X6_tears hX (d := (d + 1)) e10 hQ2) ?_
    obtain ⟨_, e11, hF⟩ := mm_bind hF
    obtain ⟨v12, e13, hF⟩ := mm_bind hF
    refine go_cV hX (As := [.int v9.1]) (rv := some (.int v12.1)) (h2 := v12.2) (ci := 6) c_151 rfl (Nat.le_of_ble_eq_true rfl) rfl rfl e11 (by decide) (Nat.le_of_ble_eq_true rfl) (fun Q2 hQ2 => r_X6_keeps hX (d := (d + 1)) e13 hQ2) ?_
    cases hF
    exact go_iret hX c_151 rfl rfl rfl hQ
  · refine go_zf hX c_151 rfl (by decide) hc7 ?_
    refine go_adv hX c_151 1 (F2 := (13, [.ref x0], [(0, .ref x0), (1, .int x1)], v5.2)) rfl ?_
    obtain ⟨_, e14, hF⟩ := mm_bind hF
    obtain ⟨v15, e16, hF⟩ := mm_bind hF
    refine go_cV hX (As := []) (rv := some (.int v15.1)) (h2 := v15.2) (ci := 6) c_151 rfl (Nat.le_of_ble_eq_true rfl) rfl rfl e14 (by decide) (Nat.le_of_ble_eq_true rfl) (fun Q2 hQ2 => r_X6_refused hX (d := (d + 1)) e16 hQ2) ?_
    refine go_to hX 28 c_151 rfl rfl ?_
    cases hF
    exact go_iret hX c_151 rfl rfl rfl hQ
theorem c_152 : mm_cd 152 = k_X6_isRefusedHalve := rfl
def F_X6_isRefusedHalve (h : mm_S) (x0 : Nat) (x1 : Int32) : Option (Int32 × mm_S) :=
  (fx_is h x0 6).bind fun _ =>
  (F_X6_isNoStair h x0 x1).bind fun v2 =>
  if v2.1 ≠ 0 then
    some (ki 1, v2.2)
  else
    (fx_is v2.2 x0 6).bind fun _ =>
    (F_X6_sv v2.2 x0 x1 (ki 4)).bind fun v6 =>
    if v6 = (ki 3) then
      (fx_is v2.2 x0 6).bind fun _ =>
      (F_X6_sv v2.2 x0 x1 (ki 2)).bind fun v10 =>
      (fx_is v2.2 x0 6).bind fun _ =>
      (F_X6_isBad v2.2 x0 (kb 6) v10).bind fun v13 =>
      if v13.1 = 0 then
        some (ki 0, v13.2)
      else
        some (ki 1, v13.2)
    else
      (fx_is v2.2 x0 6).bind fun _ =>
      (F_X6_sv v2.2 x0 x1 (ki 2)).bind fun v17 =>
      if v17 ≠ (ki 1) then
        some (ki 0, v2.2)
      else
        (fx_is v2.2 x0 6).bind fun _ =>
        (F_X6_sv v2.2 x0 x1 (ki 2)).bind fun v21 =>
        (fx_is v2.2 x0 6).bind fun _ =>
        (F_X6_isBad v2.2 x0 (kb 6) v21).bind fun v24 =>
        if v24.1 = 0 then
          some (ki 0, v24.2)
        else
          some (ki 1, v24.2)
theorem r_X6_isRefusedHalve {X : mm_Cl} (hX : mm_mono X) {d c k : Nat} {Q : mm_Re → Prop} {h : mm_S} {x0 : Nat} {x1 : Int32} {o : (Int32 × mm_S)} (hF : F_X6_isRefusedHalve h x0 x1 = some o) (hQ : Q (.inl (some (.int o.1)), o.2)) : mm_Run X (d + 4) 152 c k [.ref x0, .int x1] h Q := by
  unfold F_X6_isRefusedHalve at hF
  refine mm_Run_in (by decide) (by decide) (Nat.le_of_ble_eq_true rfl) ?_
  show mm_Ex (mm_Run X (d + 3)) 152 Q (0, [], [(0, .ref x0), (1, .int x1)], h) c k
  refine go_adv hX c_152 2 (F2 := (2, [.int x1, .ref x0], [(0, .ref x0), (1, .int x1)], h)) rfl ?_
  obtain ⟨_, e1, hF⟩ := mm_bind hF
  obtain ⟨v2, e3, hF⟩ := mm_bind hF
  refine go_cV hX (As := [.int x1]) (rv := some (.int v2.1)) (h2 := v2.2) (ci := 6) c_152 rfl (Nat.le_of_ble_eq_true rfl) rfl rfl e1 (by decide) (Nat.le_of_ble_eq_true rfl) (fun Q2 hQ2 => r_X6_isNoStair hX (d := d) e3 hQ2) ?_
  rcases mm_ite hF with ⟨hc4, hF⟩ | ⟨hc4, hF⟩
  · refine go_zt hX 43 c_152 rfl rfl hc4 ?_
    refine go_adv hX c_152 1 (F2 := (44, [.int (ki 1)], [(0, .ref x0), (1, .int x1)], v2.2)) rfl ?_
    refine go_to hX 48 c_152 rfl rfl ?_
    cases hF
    exact go_iret hX c_152 rfl rfl (by decide) hQ
  · refine go_zf hX c_152 rfl (by decide) hc4 ?_
    refine go_adv hX c_152 3 (F2 := (11, [.int (ki 4), .int x1, .ref x0], [(0, .ref x0), (1, .int x1)], v2.2)) rfl ?_
    obtain ⟨_, e5, hF⟩ := mm_bind hF
    obtain ⟨v6, e7, hF⟩ := mm_bind hF
    refine go_cV hX (As := [.int x1, .int (ki 4)]) (rv := some (.int v6)) (h2 := v2.2) (ci := 6) c_152 rfl (Nat.le_of_ble_eq_true rfl) rfl rfl e5 (by decide) (Nat.le_of_ble_eq_true rfl) (fun Q2 hQ2 => r_X6_sv hX (d := (d + 2)) e7 hQ2) ?_
    refine go_adv hX c_152 1 (F2 := (15, [.int (ki 3), .int v6], [(0, .ref x0), (1, .int x1)], v2.2)) rfl ?_
    rcases mm_ite hF with ⟨hc8, hF⟩ | ⟨hc8, hF⟩
    · refine go_ct hX 28 c_152 rfl rfl hc8 ?_
      refine go_adv hX c_152 5 (F2 := (34, [.int (ki 2), .int x1, .ref x0, .int (kb 6), .ref x0], [(0, .ref x0), (1, .int x1)], v2.2)) rfl ?_
      obtain ⟨_, e9, hF⟩ := mm_bind hF
      obtain ⟨v10, e11, hF⟩ := mm_bind hF
      refine go_cV hX (As := [.int x1, .int (ki 2)]) (rv := some (.int v10)) (h2 := v2.2) (ci := 6) c_152 rfl (Nat.le_of_ble_eq_true rfl) rfl rfl e9 (by decide) (Nat.le_of_ble_eq_true rfl) (fun Q2 hQ2 => r_X6_sv hX (d := (d + 2)) e11 hQ2) ?_
      obtain ⟨_, e12, hF⟩ := mm_bind hF
      obtain ⟨v13, e14, hF⟩ := mm_bind hF
      refine go_cV hX (As := [.int (kb 6), .int v10]) (rv := some (.int v13.1)) (h2 := v13.2) (ci := 6) c_152 rfl (Nat.le_of_ble_eq_true rfl) rfl rfl e12 (by decide) (Nat.le_of_ble_eq_true rfl) (fun Q2 hQ2 => r_X6_isBad hX (d := (d + 2)) e14 hQ2) ?_
      rcases mm_ite hF with ⟨hc15, hF⟩ | ⟨hc15, hF⟩
      · refine go_zt hX 47 c_152 rfl rfl hc15 ?_
        refine go_adv hX c_152 1 (F2 := (48, [.int (ki 0)], [(0, .ref x0), (1, .int x1)], v13.2)) rfl ?_
        cases hF
        exact go_iret hX c_152 rfl rfl (by decide) hQ
      · refine go_zf hX c_152 rfl (by decide) hc15 ?_
        refine go_adv hX c_152 1 (F2 := (44, [.int (ki 1)], [(0, .ref x0), (1, .int x1)], v13.2)) rfl ?_
        refine go_to hX 48 c_152 rfl rfl ?_
        cases hF
        exact go_iret hX c_152 rfl rfl (by decide) hQ
    · refine go_cf hX c_152 rfl (by decide) hc8 ?_
      refine go_adv hX c_152 3 (F2 := (21, [.int (ki 2), .int x1, .ref x0], [(0, .ref x0), (1, .int x1)], v2.2)) rfl ?_
      obtain ⟨_, e16, hF⟩ := mm_bind hF
      obtain ⟨v17, e18, hF⟩ := mm_bind hF
      refine go_cV hX (As := [.int x1, .int (ki 2)]) (rv := some (.int v17)) (h2 := v2.2) (ci := 6) c_152 rfl (Nat.le_of_ble_eq_true rfl) rfl rfl e16 (by decide) (Nat.le_of_ble_eq_true rfl) (fun Q2 hQ2 => r_X6_sv hX (d := (d + 2)) e18 hQ2) ?_
      refine go_adv hX c_152 1 (F2 := (25, [.int (ki 1), .int v17], [(0, .ref x0), (1, .int x1)], v2.2)) rfl ?_
      rcases mm_ite hF with ⟨hc19, hF⟩ | ⟨hc19, hF⟩
      · refine go_ct hX 47 c_152 rfl rfl hc19 ?_
        refine go_adv hX c_152 1 (F2 := (48, [.int (ki 0)], [(0, .ref x0), (1, .int x1)], v2.2)) rfl ?_
        cases hF
        exact go_iret hX c_152 rfl rfl (by decide) hQ
      · refine go_cf hX c_152 rfl (by decide) hc19 ?_
        refine go_adv hX c_152 5 (F2 := (34, [.int (ki 2), .int x1, .ref x0, .int (kb 6), .ref x0], [(0, .ref x0), (1, .int x1)], v2.2)) rfl ?_
        obtain ⟨_, e20, hF⟩ := mm_bind hF
        obtain ⟨v21, e22, hF⟩ := mm_bind hF
        refine go_cV hX (As := [.int x1, .int (ki 2)]) (rv := some (.int v21)) (h2 := v2.2) (ci := 6) c_152 rfl (Nat.le_of_ble_eq_true rfl) rfl rfl e20 (by decide) (Nat.le_of_ble_eq_true rfl) (fun Q2 hQ2 => r_X6_sv hX (d := (d + 2)) e22 hQ2) ?_
        obtain ⟨_, e23, hF⟩ := mm_bind hF
        obtain ⟨v24, e25, hF⟩ := mm_bind hF
        refine go_cV hX (As := [.int (kb 6), .int v21]) (rv := some (.int v24.1)) (h2 := v24.2) (ci := 6) c_152 rfl (Nat.le_of_ble_eq_true rfl) rfl rfl e23 (by decide) (Nat.le_of_ble_eq_true rfl) (fun Q2 hQ2 => r_X6_isBad hX (d := (d + 2)) e25 hQ2) ?_
        rcases mm_ite hF with ⟨hc26, hF⟩ | ⟨hc26, hF⟩
        · refine go_zt hX 47 c_152 rfl rfl hc26 ?_
          refine go_adv hX c_152 1 (F2 := (48, [.int (ki 0)], [(0, .ref x0), (1, .int x1)], v24.2)) rfl ?_
          cases hF
          exact go_iret hX c_152 rfl rfl (by decide) hQ
        · refine go_zf hX c_152 rfl (by decide) hc26 ?_
          refine go_adv hX c_152 1 (F2 := (44, [.int (ki 1)], [(0, .ref x0), (1, .int x1)], v24.2)) rfl ?_
          refine go_to hX 48 c_152 rfl rfl ?_
          cases hF
          exact go_iret hX c_152 rfl rfl (by decide) hQ
theorem c_153 : mm_cd 153 = k_X6_halves := rfl
def F_X6_halves (h : mm_S) (x0 : Nat) (x1 : Int32) : Option (Int32 × mm_S) :=
  (fx_is h x0 6).bind fun _ =>
  (F_X6_sv h x0 x1 (ki 2)).bind fun v2 =>
  (fx_div (v2 + (ki 1)) (ki 2)).bind fun v4 =>
  (fx_is h x0 6).bind fun _ =>
  (F_X6_ls h x0 x1 (ki 2) v4).bind fun v7 =>
  (fx_is v7 x0 6).bind fun _ =>
  (F_X6_sv v7 x0 x1 (ki 4)).bind fun v10 =>
  (fx_is v7 x0 6).bind fun _ =>
  (F_X6_ls v7 x0 x1 (ki 4) (v10 + (ki 1))).bind fun v13 =>
  (fx_gR v13 x0 6 0).bind fun v15 =>
  (fx_aI v13 v15 (kb 9)).bind fun v17 =>
  (fx_sI v13 v15 (kb 9) (v17 + (ki 1))).bind fun h19 =>
  (fx_is h19 x0 6).bind fun _ =>
  (F_X6_sv h19 x0 x1 (ki 2)).bind fun v22 =>
  some (v22, h19)
theorem r_X6_halves {X : mm_Cl} (hX : mm_mono X) {d c k : Nat} {Q : mm_Re → Prop} {h : mm_S} {x0 : Nat} {x1 : Int32} {o : (Int32 × mm_S)} (hF : F_X6_halves h x0 x1 = some o) (hQ : Q (.inl (some (.int o.1)), o.2)) : mm_Run X (d + 2) 153 c k [.ref x0, .int x1] h Q := by
  unfold F_X6_halves at hF
  refine mm_Run_in (by decide) (by decide) (Nat.le_of_ble_eq_true rfl) ?_
  show mm_Ex (mm_Run X (d + 1)) 153 Q (0, [], [(0, .ref x0), (1, .int x1)], h) c k
  refine go_adv hX c_153 6 (F2 := (6, [.int (ki 2), .int x1, .ref x0, .int (ki 2), .int x1, .ref x0], [(0, .ref x0), (1, .int x1)], h)) rfl ?_
  obtain ⟨_, e1, hF⟩ := mm_bind hF
  obtain ⟨v2, e3, hF⟩ := mm_bind hF
  refine go_cV hX (As := [.int x1, .int (ki 2)]) (rv := some (.int v2)) (h2 := h) (ci := 6) c_153 rfl (Nat.le_of_ble_eq_true rfl) rfl rfl e1 (by decide) (Nat.le_of_ble_eq_true rfl) (fun Q2 hQ2 => r_X6_sv hX (d := d) e3 hQ2) ?_
  refine go_adv hX c_153 3 (F2 := (12, [.int (ki 2), .int (v2 + (ki 1)), .int (ki 2), .int x1, .ref x0], [(0, .ref x0), (1, .int x1)], h)) rfl ?_
  obtain ⟨v4, e5, hF⟩ := mm_bind hF
  refine go_div hX c_153 rfl e5 ?_
  obtain ⟨_, e6, hF⟩ := mm_bind hF
  obtain ⟨v7, e8, hF⟩ := mm_bind hF
  refine go_cV hX (As := [.int x1, .int (ki 2), .int v4]) (rv := none) (h2 := v7) (ci := 6) c_153 rfl (Nat.le_of_ble_eq_true rfl) rfl rfl e6 (by decide) (Nat.le_of_ble_eq_true rfl) (fun Q2 hQ2 => r_X6_ls hX (d := d) e8 hQ2) ?_
  refine go_adv hX c_153 6 (F2 := (22, [.int (ki 4), .int x1, .ref x0, .int (ki 4), .int x1, .ref x0], [(0, .ref x0), (1, .int x1)], v7)) rfl ?_
  obtain ⟨_, e9, hF⟩ := mm_bind hF
  obtain ⟨v10, e11, hF⟩ := mm_bind hF
  refine go_cV hX (As := [.int x1, .int (ki 4)]) (rv := some (.int v10)) (h2 := v7) (ci := 6) c_153 rfl (Nat.le_of_ble_eq_true rfl) rfl rfl e9 (by decide) (Nat.le_of_ble_eq_true rfl) (fun Q2 hQ2 => r_X6_sv hX (d := d) e11 hQ2) ?_
  refine go_adv hX c_153 2 (F2 := (27, [.int (v10 + (ki 1)), .int (ki 4), .int x1, .ref x0], [(0, .ref x0), (1, .int x1)], v7)) rfl ?_
  obtain ⟨_, e12, hF⟩ := mm_bind hF
  obtain ⟨v13, e14, hF⟩ := mm_bind hF
  refine go_cV hX (As := [.int x1, .int (ki 4), .int (v10 + (ki 1))]) (rv := none) (h2 := v13) (ci := 6) c_153 rfl (Nat.le_of_ble_eq_true rfl) rfl rfl e12 (by decide) (Nat.le_of_ble_eq_true rfl) (fun Q2 hQ2 => r_X6_ls hX (d := d) e14 hQ2) ?_
  refine go_adv hX c_153 1 (F2 := (31, [.ref x0], [(0, .ref x0), (1, .int x1)], v13)) rfl ?_
  obtain ⟨v15, e16, hF⟩ := mm_bind hF
  refine go_gR hX c_153 rfl e16 ?_
  refine go_adv hX c_153 1 (F2 := (36, [.int (kb 9), .ref v15], [(0, .ref x0), (1, .int x1)], v13)) rfl ?_
  refine go_p hX c_153 rfl rfl ⟨rfl, rfl⟩ ?_
  obtain ⟨v17, e18, hF⟩ := mm_bind hF
  refine go_aI hX c_153 rfl e18 ?_
  refine go_adv hX c_153 2 (F2 := (40, [.int (v17 + (ki 1)), .int (kb 9), .ref v15], [(0, .ref x0), (1, .int x1)], v13)) rfl ?_
  obtain ⟨h19, e20, hF⟩ := mm_bind hF
  refine go_sI hX c_153 rfl e20 ?_
  refine go_adv hX c_153 3 (F2 := (44, [.int (ki 2), .int x1, .ref x0], [(0, .ref x0), (1, .int x1)], h19)) rfl ?_
  obtain ⟨_, e21, hF⟩ := mm_bind hF
  obtain ⟨v22, e23, hF⟩ := mm_bind hF
  refine go_cV hX (As := [.int x1, .int (ki 2)]) (rv := some (.int v22)) (h2 := h19) (ci := 6) c_153 rfl (Nat.le_of_ble_eq_true rfl) rfl rfl e21 (by decide) (Nat.le_of_ble_eq_true rfl) (fun Q2 hQ2 => r_X6_sv hX (d := d) e23 hQ2) ?_
  cases hF
  exact go_iret hX c_153 rfl rfl rfl hQ
theorem c_154 : mm_cd 154 = k_X6_halve := rfl
def F_X6_halve (h : mm_S) (x0 : Nat) (x1 : Int32) : Option (Int32 × mm_S) :=
  (fx_is h x0 6).bind fun _ =>
  (F_X6_begins h x0).bind fun v2 =>
  (fx_is v2 x0 6).bind fun _ =>
  (F_X6_isRefusedHalve v2 x0 x1).bind fun v5 =>
  if v5.1 = 0 then
    (fx_is v5.2 x0 6).bind fun _ =>
    (F_X6_halves v5.2 x0 x1).bind fun v9 =>
    (fx_is v9.2 x0 6).bind fun _ =>
    (F_X6_keeps v9.2 x0 v9.1).bind fun v12 =>
    some (v12.1, v12.2)
  else
    (fx_is v5.2 x0 6).bind fun _ =>
    (F_X6_refused v5.2 x0).bind fun v15 =>
    some (v15.1, v15.2)
theorem r_X6_halve {X : mm_Cl} (hX : mm_mono X) {d c k : Nat} {Q : mm_Re → Prop} {h : mm_S} {x0 : Nat} {x1 : Int32} {o : (Int32 × mm_S)} (hF : F_X6_halve h x0 x1 = some o) (hQ : Q (.inl (some (.int o.1)), o.2)) : mm_Run X (d + 5) 154 c k [.ref x0, .int x1] h Q := by
  unfold F_X6_halve at hF
  refine mm_Run_in (by decide) (by decide) (Nat.le_of_ble_eq_true rfl) ?_
  show mm_Ex (mm_Run X (d + 4)) 154 Q (0, [], [(0, .ref x0), (1, .int x1)], h) c k
  refine go_adv hX c_154 1 (F2 := (1, [.ref x0], [(0, .ref x0), (1, .int x1)], h)) rfl ?_
  obtain ⟨_, e1, hF⟩ := mm_bind hF
  obtain ⟨v2, e3, hF⟩ := mm_bind hF
  refine go_cV hX (As := []) (rv := none) (h2 := v2) (ci := 6) c_154 rfl (Nat.le_of_ble_eq_true rfl) rfl rfl e1 (by decide) (Nat.le_of_ble_eq_true rfl) (fun Q2 hQ2 => r_X6_begins hX (d := (d + 2)) e3 hQ2) ?_
  refine go_adv hX c_154 2 (F2 := (6, [.int x1, .ref x0], [(0, .ref x0), (1, .int x1)], v2)) rfl ?_
  obtain ⟨_, e4, hF⟩ := mm_bind hF
  obtain ⟨v5, e6, hF⟩ := mm_bind hF
  refine go_cV hX (As := [.int x1]) (rv := some (.int v5.1)) (h2 := v5.2) (ci := 6) c_154 rfl (Nat.le_of_ble_eq_true rfl) rfl rfl e4 (by decide) (Nat.le_of_ble_eq_true rfl) (fun Q2 hQ2 => r_X6_isRefusedHalve hX (d := d) e6 hQ2) ?_
  rcases mm_ite hF with ⟨hc7, hF⟩ | ⟨hc7, hF⟩
  · refine go_zt hX 19 c_154 rfl rfl hc7 ?_
    refine go_adv hX c_154 3 (F2 := (22, [.int x1, .ref x0, .ref x0], [(0, .ref x0), (1, .int x1)], v5.2)) rfl ?_
    obtain ⟨_, e8, hF⟩ := mm_bind hF
    obtain ⟨v9, e10, hF⟩ := mm_bind hF
    refine go_cV hX (As := [.int x1]) (rv := some (.int v9.1)) (h2 := v9.2) (ci := 6) c_154 rfl (Nat.le_of_ble_eq_true rfl) rfl rfl e8 (by decide) (Nat.le_of_ble_eq_true rfl) (fun Q2 hQ2 => r_X6_halves hX (d := (d + 2)) e10 hQ2) ?_
    obtain ⟨_, e11, hF⟩ := mm_bind hF
    obtain ⟨v12, e13, hF⟩ := mm_bind hF
    refine go_cV hX (As := [.int v9.1]) (rv := some (.int v12.1)) (h2 := v12.2) (ci := 6) c_154 rfl (Nat.le_of_ble_eq_true rfl) rfl rfl e11 (by decide) (Nat.le_of_ble_eq_true rfl) (fun Q2 hQ2 => r_X6_keeps hX (d := (d + 2)) e13 hQ2) ?_
    cases hF
    exact go_iret hX c_154 rfl rfl rfl hQ
  · refine go_zf hX c_154 rfl (by decide) hc7 ?_
    refine go_adv hX c_154 1 (F2 := (13, [.ref x0], [(0, .ref x0), (1, .int x1)], v5.2)) rfl ?_
    obtain ⟨_, e14, hF⟩ := mm_bind hF
    obtain ⟨v15, e16, hF⟩ := mm_bind hF
    refine go_cV hX (As := []) (rv := some (.int v15.1)) (h2 := v15.2) (ci := 6) c_154 rfl (Nat.le_of_ble_eq_true rfl) rfl rfl e14 (by decide) (Nat.le_of_ble_eq_true rfl) (fun Q2 hQ2 => r_X6_refused hX (d := (d + 2)) e16 hQ2) ?_
    refine go_to hX 28 c_154 rfl rfl ?_
    cases hF
    exact go_iret hX c_154 rfl rfl rfl hQ
theorem c_155 : mm_cd 155 = k_X6_rentOf := rfl
def F_X6_rentOf (h : mm_S) (x0 : Nat) (x1 : Int32) : Option Int32 :=
  (fx_is h x0 6).bind fun _ =>
  (F_X6_sv h x0 x1 (ki 2)).bind fun v2 =>
  (fx_div v2 (kb 8)).bind fun v4 =>
  some ((ki 1) + v4)
theorem r_X6_rentOf {X : mm_Cl} (hX : mm_mono X) {d c k : Nat} {Q : mm_Re → Prop} {h : mm_S} {x0 : Nat} {x1 : Int32} {o : Int32} (hF : F_X6_rentOf h x0 x1 = some o) (hQ : Q (.inl (some (.int o)), h)) : mm_Run X (d + 2) 155 c k [.ref x0, .int x1] h Q := by
  unfold F_X6_rentOf at hF
  refine mm_Run_in (by decide) (by decide) (Nat.le_of_ble_eq_true rfl) ?_
  show mm_Ex (mm_Run X (d + 1)) 155 Q (0, [], [(0, .ref x0), (1, .int x1)], h) c k
  refine go_adv hX c_155 4 (F2 := (4, [.int (ki 2), .int x1, .ref x0, .int (ki 1)], [(0, .ref x0), (1, .int x1)], h)) rfl ?_
  obtain ⟨_, e1, hF⟩ := mm_bind hF
  obtain ⟨v2, e3, hF⟩ := mm_bind hF
  refine go_cV hX (As := [.int x1, .int (ki 2)]) (rv := some (.int v2)) (h2 := h) (ci := 6) c_155 rfl (Nat.le_of_ble_eq_true rfl) rfl rfl e1 (by decide) (Nat.le_of_ble_eq_true rfl) (fun Q2 hQ2 => r_X6_sv hX (d := d) e3 hQ2) ?_
  refine go_adv hX c_155 1 (F2 := (9, [.int (kb 8), .int v2, .int (ki 1)], [(0, .ref x0), (1, .int x1)], h)) rfl ?_
  obtain ⟨v4, e5, hF⟩ := mm_bind hF
  refine go_div hX c_155 rfl e5 ?_
  refine go_adv hX c_155 1 (F2 := (11, [.int ((ki 1) + v4)], [(0, .ref x0), (1, .int x1)], h)) rfl ?_
  cases hF
  exact go_iret hX c_155 rfl rfl rfl hQ
theorem c_156 : mm_cd 156 = k_X6_isRefusedLease := rfl
def F_X6_isRefusedLease (h : mm_S) (x0 : Nat) (x1 : Int32) (x2 : Int32) (x3 : Int32) : Option (Int32 × mm_S) :=
  (fx_is h x0 6).bind fun _ =>
  (F_X6_isNoGiant h x0 x1).bind fun v2 =>
  if v2.1 ≠ 0 then
    some (ki 1, v2.2)
  else
    (fx_is v2.2 x0 6).bind fun _ =>
    (F_X6_isNoStair v2.2 x0 x2).bind fun v6 =>
    if v6.1 = 0 then
      (F_X6_in v6.2 x3 (ki 1) (kb 9)).bind fun v9 =>
      if v9 ≠ 0 then
        (fx_is v6.2 x0 6).bind fun _ =>
        (F_X6_sv v6.2 x0 x2 (ki 5)).bind fun v13 =>
        if v13 < 0 then
          some (ki 0, v6.2)
        else
          (fx_is v6.2 x0 6).bind fun _ =>
          (F_X6_sv v6.2 x0 x2 (kb 6)).bind fun v17 =>
          (fx_is v6.2 x0 6).bind fun _ =>
          (F_X6_isBad v6.2 x0 (kb 7) v17).bind fun v20 =>
          if v20.1 = 0 then
            some (ki 0, v20.2)
          else
            some (ki 1, v20.2)
      else
        (fx_is v6.2 x0 6).bind fun _ =>
        (F_X6_isBad v6.2 x0 (ki 3) x3).bind fun v24 =>
        (fx_nar .boolean v24.1).bind fun v26 =>
        some (v26, v24.2)
    else
      some (ki 1, v6.2)
theorem r_X6_isRefusedLease {X : mm_Cl} (hX : mm_mono X) {d c k : Nat} {Q : mm_Re → Prop} {h : mm_S} {x0 : Nat} {x1 : Int32} {x2 : Int32} {x3 : Int32} {o : (Int32 × mm_S)} (hF : F_X6_isRefusedLease h x0 x1 x2 x3 = some o) (hQ : Q (.inl (some (.int o.1)), o.2)) : mm_Run X (d + 4) 156 c k [.ref x0, .int x1, .int x2, .int x3] h Q := by
  unfold F_X6_isRefusedLease at hF
  refine mm_Run_in (by decide) (by decide) (Nat.le_of_ble_eq_true rfl) ?_
  show mm_Ex (mm_Run X (d + 3)) 156 Q (0, [], [(0, .ref x0), (1, .int x1), (2, .int x2), (3, .int x3)], h) c k
  refine go_adv hX c_156 2 (F2 := (2, [.int x1, .ref x0], [(0, .ref x0), (1, .int x1), (2, .int x2), (3, .int x3)], h)) rfl ?_
  obtain ⟨_, e1, hF⟩ := mm_bind hF
  obtain ⟨v2, e3, hF⟩ := mm_bind hF
  refine go_cV hX (As := [.int x1]) (rv := some (.int v2.1)) (h2 := v2.2) (ci := 6) c_156 rfl (Nat.le_of_ble_eq_true rfl) rfl rfl e1 (by decide) (Nat.le_of_ble_eq_true rfl) (fun Q2 hQ2 => r_X6_isNoGiant hX (d := d) e3 hQ2) ?_
  rcases mm_ite hF with ⟨hc4, hF⟩ | ⟨hc4, hF⟩
  · refine go_zt hX 16 c_156 rfl rfl hc4 ?_
    refine go_adv hX c_156 1 (F2 := (17, [.int (ki 1)], [(0, .ref x0), (1, .int x1), (2, .int x2), (3, .int x3)], v2.2)) rfl ?_
    cases hF
    exact go_iret hX c_156 rfl rfl (by decide) hQ
  · refine go_zf hX c_156 rfl (by decide) hc4 ?_
    refine go_adv hX c_156 2 (F2 := (10, [.int x2, .ref x0], [(0, .ref x0), (1, .int x1), (2, .int x2), (3, .int x3)], v2.2)) rfl ?_
    obtain ⟨_, e5, hF⟩ := mm_bind hF
    obtain ⟨v6, e7, hF⟩ := mm_bind hF
    refine go_cV hX (As := [.int x2]) (rv := some (.int v6.1)) (h2 := v6.2) (ci := 6) c_156 rfl (Nat.le_of_ble_eq_true rfl) rfl rfl e5 (by decide) (Nat.le_of_ble_eq_true rfl) (fun Q2 hQ2 => r_X6_isNoStair hX (d := d) e7 hQ2) ?_
    rcases mm_ite hF with ⟨hc8, hF⟩ | ⟨hc8, hF⟩
    · refine go_zt hX 18 c_156 rfl rfl hc8 ?_
      refine go_adv hX c_156 3 (F2 := (22, [.int (kb 9), .int (ki 1), .int x3], [(0, .ref x0), (1, .int x1), (2, .int x2), (3, .int x3)], v6.2)) rfl ?_
      obtain ⟨v9, e10, hF⟩ := mm_bind hF
      refine go_cS hX (As := [.int x3, .int (ki 1), .int (kb 9)]) (rv := some (.int v9)) (h2 := v6.2) c_156 rfl (by decide) (Nat.le_of_ble_eq_true rfl) rfl rfl (Nat.le_of_ble_eq_true rfl) (fun Q2 hQ2 => r_X6_in hX (d := (d + 2)) e10 hQ2) ?_
      rcases mm_ite hF with ⟨hc11, hF⟩ | ⟨hc11, hF⟩
      · refine go_zt hX 35 c_156 rfl rfl hc11 ?_
        refine go_adv hX c_156 3 (F2 := (38, [.int (ki 5), .int x2, .ref x0], [(0, .ref x0), (1, .int x1), (2, .int x2), (3, .int x3)], v6.2)) rfl ?_
        obtain ⟨_, e12, hF⟩ := mm_bind hF
        obtain ⟨v13, e14, hF⟩ := mm_bind hF
        refine go_cV hX (As := [.int x2, .int (ki 5)]) (rv := some (.int v13)) (h2 := v6.2) (ci := 6) c_156 rfl (Nat.le_of_ble_eq_true rfl) rfl rfl e12 (by decide) (Nat.le_of_ble_eq_true rfl) (fun Q2 hQ2 => r_X6_sv hX (d := (d + 2)) e14 hQ2) ?_
        rcases mm_ite hF with ⟨hc15, hF⟩ | ⟨hc15, hF⟩
        · refine go_zt hX 64 c_156 rfl rfl hc15 ?_
          refine go_adv hX c_156 1 (F2 := (65, [.int (ki 0)], [(0, .ref x0), (1, .int x1), (2, .int x2), (3, .int x3)], v6.2)) rfl ?_
          cases hF
          exact go_iret hX c_156 rfl rfl (by decide) hQ
        · refine go_zf hX c_156 rfl (by decide) hc15 ?_
          refine go_adv hX c_156 5 (F2 := (51, [.int (kb 6), .int x2, .ref x0, .int (kb 7), .ref x0], [(0, .ref x0), (1, .int x1), (2, .int x2), (3, .int x3)], v6.2)) rfl ?_
          obtain ⟨_, e16, hF⟩ := mm_bind hF
          obtain ⟨v17, e18, hF⟩ := mm_bind hF
          refine go_cV hX (As := [.int x2, .int (kb 6)]) (rv := some (.int v17)) (h2 := v6.2) (ci := 6) c_156 rfl (Nat.le_of_ble_eq_true rfl) rfl rfl e16 (by decide) (Nat.le_of_ble_eq_true rfl) (fun Q2 hQ2 => r_X6_sv hX (d := (d + 2)) e18 hQ2) ?_
          obtain ⟨_, e19, hF⟩ := mm_bind hF
          obtain ⟨v20, e21, hF⟩ := mm_bind hF
          refine go_cV hX (As := [.int (kb 7), .int v17]) (rv := some (.int v20.1)) (h2 := v20.2) (ci := 6) c_156 rfl (Nat.le_of_ble_eq_true rfl) rfl rfl e19 (by decide) (Nat.le_of_ble_eq_true rfl) (fun Q2 hQ2 => r_X6_isBad hX (d := (d + 2)) e21 hQ2) ?_
          rcases mm_ite hF with ⟨hc22, hF⟩ | ⟨hc22, hF⟩
          · refine go_zt hX 64 c_156 rfl rfl hc22 ?_
            refine go_adv hX c_156 1 (F2 := (65, [.int (ki 0)], [(0, .ref x0), (1, .int x1), (2, .int x2), (3, .int x3)], v20.2)) rfl ?_
            cases hF
            exact go_iret hX c_156 rfl rfl (by decide) hQ
          · refine go_zf hX c_156 rfl (by decide) hc22 ?_
            refine go_adv hX c_156 1 (F2 := (61, [.int (ki 1)], [(0, .ref x0), (1, .int x1), (2, .int x2), (3, .int x3)], v20.2)) rfl ?_
            refine go_to hX 65 c_156 rfl rfl ?_
            cases hF
            exact go_iret hX c_156 rfl rfl (by decide) hQ
      · refine go_zf hX c_156 rfl (by decide) hc11 ?_
        refine go_adv hX c_156 3 (F2 := (31, [.int x3, .int (ki 3), .ref x0], [(0, .ref x0), (1, .int x1), (2, .int x2), (3, .int x3)], v6.2)) rfl ?_
        obtain ⟨_, e23, hF⟩ := mm_bind hF
        obtain ⟨v24, e25, hF⟩ := mm_bind hF
        refine go_cV hX (As := [.int (ki 3), .int x3]) (rv := some (.int v24.1)) (h2 := v24.2) (ci := 6) c_156 rfl (Nat.le_of_ble_eq_true rfl) rfl rfl e23 (by decide) (Nat.le_of_ble_eq_true rfl) (fun Q2 hQ2 => r_X6_isBad hX (d := (d + 2)) e25 hQ2) ?_
        obtain ⟨v26, e27, hF⟩ := mm_bind hF
        obtain ⟨rfl, e27n⟩ := fx_nar_s e27
        cases hF
        exact go_iret hX c_156 rfl rfl e27n hQ
    · refine go_zf hX c_156 rfl (by decide) hc8 ?_
      refine go_adv hX c_156 1 (F2 := (17, [.int (ki 1)], [(0, .ref x0), (1, .int x1), (2, .int x2), (3, .int x3)], v6.2)) rfl ?_
      cases hF
      exact go_iret hX c_156 rfl rfl (by decide) hQ
theorem c_157 : mm_cd 157 = k_X6_leases := rfl
def F_X6_leases (h : mm_S) (x0 : Nat) (x1 : Int32) (x2 : Int32) (x3 : Int32) : Option (Int32 × mm_S) :=
  (fx_is h x0 6).bind fun _ =>
  (F_X6_ls h x0 x2 (ki 5) x1).bind fun v2 =>
  (fx_is v2 x0 6).bind fun _ =>
  (F_X6_ls v2 x0 x2 (kb 6) x3).bind fun v5 =>
  (fx_is v5 x0 6).bind fun _ =>
  (F_X6_rentOf v5 x0 x2).bind fun v8 =>
  some (v8, v5)
theorem r_X6_leases {X : mm_Cl} (hX : mm_mono X) {d c k : Nat} {Q : mm_Re → Prop} {h : mm_S} {x0 : Nat} {x1 : Int32} {x2 : Int32} {x3 : Int32} {o : (Int32 × mm_S)} (hF : F_X6_leases h x0 x1 x2 x3 = some o) (hQ : Q (.inl (some (.int o.1)), o.2)) : mm_Run X (d + 3) 157 c k [.ref x0, .int x1, .int x2, .int x3] h Q := by
  unfold F_X6_leases at hF
  refine mm_Run_in (by decide) (by decide) (Nat.le_of_ble_eq_true rfl) ?_
  show mm_Ex (mm_Run X (d + 2)) 157 Q (0, [], [(0, .ref x0), (1, .int x1), (2, .int x2), (3, .int x3)], h) c k
  refine go_adv hX c_157 4 (F2 := (4, [.int x1, .int (ki 5), .int x2, .ref x0], [(0, .ref x0), (1, .int x1), (2, .int x2), (3, .int x3)], h)) rfl ?_
  obtain ⟨_, e1, hF⟩ := mm_bind hF
  obtain ⟨v2, e3, hF⟩ := mm_bind hF
  refine go_cV hX (As := [.int x2, .int (ki 5), .int x1]) (rv := none) (h2 := v2) (ci := 6) c_157 rfl (Nat.le_of_ble_eq_true rfl) rfl rfl e1 (by decide) (Nat.le_of_ble_eq_true rfl) (fun Q2 hQ2 => r_X6_ls hX (d := (d + 1)) e3 hQ2) ?_
  refine go_adv hX c_157 4 (F2 := (12, [.int x3, .int (kb 6), .int x2, .ref x0], [(0, .ref x0), (1, .int x1), (2, .int x2), (3, .int x3)], v2)) rfl ?_
  obtain ⟨_, e4, hF⟩ := mm_bind hF
  obtain ⟨v5, e6, hF⟩ := mm_bind hF
  refine go_cV hX (As := [.int x2, .int (kb 6), .int x3]) (rv := none) (h2 := v5) (ci := 6) c_157 rfl (Nat.le_of_ble_eq_true rfl) rfl rfl e4 (by decide) (Nat.le_of_ble_eq_true rfl) (fun Q2 hQ2 => r_X6_ls hX (d := (d + 1)) e6 hQ2) ?_
  refine go_adv hX c_157 2 (F2 := (17, [.int x2, .ref x0], [(0, .ref x0), (1, .int x1), (2, .int x2), (3, .int x3)], v5)) rfl ?_
  obtain ⟨_, e7, hF⟩ := mm_bind hF
  obtain ⟨v8, e9, hF⟩ := mm_bind hF
  refine go_cV hX (As := [.int x2]) (rv := some (.int v8)) (h2 := v5) (ci := 6) c_157 rfl (Nat.le_of_ble_eq_true rfl) rfl rfl e7 (by decide) (Nat.le_of_ble_eq_true rfl) (fun Q2 hQ2 => r_X6_rentOf hX (d := d) e9 hQ2) ?_
  cases hF
  exact go_iret hX c_157 rfl rfl rfl hQ
theorem c_158 : mm_cd 158 = k_X6_lease := rfl
def F_X6_lease (h : mm_S) (x0 : Nat) (x1 : Int32) (x2 : Int32) (x3 : Int32) : Option (Int32 × mm_S) :=
  (fx_is h x0 6).bind fun _ =>
  (F_X6_begins h x0).bind fun v2 =>
  (fx_is v2 x0 6).bind fun _ =>
  (F_X6_isRefusedLease v2 x0 x1 x2 x3).bind fun v5 =>
  if v5.1 = 0 then
    (fx_is v5.2 x0 6).bind fun _ =>
    (F_X6_leases v5.2 x0 x1 x2 x3).bind fun v9 =>
    (fx_is v9.2 x0 6).bind fun _ =>
    (F_X6_keeps v9.2 x0 v9.1).bind fun v12 =>
    some (v12.1, v12.2)
  else
    (fx_is v5.2 x0 6).bind fun _ =>
    (F_X6_refused v5.2 x0).bind fun v15 =>
    some (v15.1, v15.2)
theorem r_X6_lease {X : mm_Cl} (hX : mm_mono X) {d c k : Nat} {Q : mm_Re → Prop} {h : mm_S} {x0 : Nat} {x1 : Int32} {x2 : Int32} {x3 : Int32} {o : (Int32 × mm_S)} (hF : F_X6_lease h x0 x1 x2 x3 = some o) (hQ : Q (.inl (some (.int o.1)), o.2)) : mm_Run X (d + 5) 158 c k [.ref x0, .int x1, .int x2, .int x3] h Q := by
  unfold F_X6_lease at hF
  refine mm_Run_in (by decide) (by decide) (Nat.le_of_ble_eq_true rfl) ?_
  show mm_Ex (mm_Run X (d + 4)) 158 Q (0, [], [(0, .ref x0), (1, .int x1), (2, .int x2), (3, .int x3)], h) c k
  refine go_adv hX c_158 1 (F2 := (1, [.ref x0], [(0, .ref x0), (1, .int x1), (2, .int x2), (3, .int x3)], h)) rfl ?_
  obtain ⟨_, e1, hF⟩ := mm_bind hF
  obtain ⟨v2, e3, hF⟩ := mm_bind hF
  refine go_cV hX (As := []) (rv := none) (h2 := v2) (ci := 6) c_158 rfl (Nat.le_of_ble_eq_true rfl) rfl rfl e1 (by decide) (Nat.le_of_ble_eq_true rfl) (fun Q2 hQ2 => r_X6_begins hX (d := (d + 2)) e3 hQ2) ?_
  refine go_adv hX c_158 4 (F2 := (8, [.int x3, .int x2, .int x1, .ref x0], [(0, .ref x0), (1, .int x1), (2, .int x2), (3, .int x3)], v2)) rfl ?_
  obtain ⟨_, e4, hF⟩ := mm_bind hF
  obtain ⟨v5, e6, hF⟩ := mm_bind hF
  refine go_cV hX (As := [.int x1, .int x2, .int x3]) (rv := some (.int v5.1)) (h2 := v5.2) (ci := 6) c_158 rfl (Nat.le_of_ble_eq_true rfl) rfl rfl e4 (by decide) (Nat.le_of_ble_eq_true rfl) (fun Q2 hQ2 => r_X6_isRefusedLease hX (d := d) e6 hQ2) ?_
  rcases mm_ite hF with ⟨hc7, hF⟩ | ⟨hc7, hF⟩
  · refine go_zt hX 21 c_158 rfl rfl hc7 ?_
    refine go_adv hX c_158 5 (F2 := (26, [.int x3, .int x2, .int x1, .ref x0, .ref x0], [(0, .ref x0), (1, .int x1), (2, .int x2), (3, .int x3)], v5.2)) rfl ?_
    obtain ⟨_, e8, hF⟩ := mm_bind hF
    obtain ⟨v9, e10, hF⟩ := mm_bind hF
    refine go_cV hX (As := [.int x1, .int x2, .int x3]) (rv := some (.int v9.1)) (h2 := v9.2) (ci := 6) c_158 rfl (Nat.le_of_ble_eq_true rfl) rfl rfl e8 (by decide) (Nat.le_of_ble_eq_true rfl) (fun Q2 hQ2 => r_X6_leases hX (d := (d + 1)) e10 hQ2) ?_
    obtain ⟨_, e11, hF⟩ := mm_bind hF
    obtain ⟨v12, e13, hF⟩ := mm_bind hF
    refine go_cV hX (As := [.int v9.1]) (rv := some (.int v12.1)) (h2 := v12.2) (ci := 6) c_158 rfl (Nat.le_of_ble_eq_true rfl) rfl rfl e11 (by decide) (Nat.le_of_ble_eq_true rfl) (fun Q2 hQ2 => r_X6_keeps hX (d := (d + 2)) e13 hQ2) ?_
    cases hF
    exact go_iret hX c_158 rfl rfl rfl hQ
  · refine go_zf hX c_158 rfl (by decide) hc7 ?_
    refine go_adv hX c_158 1 (F2 := (15, [.ref x0], [(0, .ref x0), (1, .int x1), (2, .int x2), (3, .int x3)], v5.2)) rfl ?_
    obtain ⟨_, e14, hF⟩ := mm_bind hF
    obtain ⟨v15, e16, hF⟩ := mm_bind hF
    refine go_cV hX (As := []) (rv := some (.int v15.1)) (h2 := v15.2) (ci := 6) c_158 rfl (Nat.le_of_ble_eq_true rfl) rfl rfl e14 (by decide) (Nat.le_of_ble_eq_true rfl) (fun Q2 hQ2 => r_X6_refused hX (d := (d + 2)) e16 hQ2) ?_
    refine go_to hX 32 c_158 rfl rfl ?_
    cases hF
    exact go_iret hX c_158 rfl rfl rfl hQ
theorem c_159 : mm_cd 159 = k_X6_takesBreaths := rfl
def F_X6_takesBreaths (h : mm_S) (x0 : Nat) (x1 : Int32) (x2 : Int32) : Option Int32 :=
  (fx_is h x0 6).bind fun _ =>
  (F_X6_sv h x0 x2 (ki 5)).bind fun v2 =>
  if v2 ≠ x1 then
    (fx_is h x0 6).bind fun _ =>
    (F_X6_sv h x0 x2 (ki 2)).bind fun v6 =>
    some ((ki 2) * v6)
  else
    (fx_is h x0 6).bind fun _ =>
    (F_X6_sv h x0 x2 (ki 2)).bind fun v9 =>
    some v9
theorem r_X6_takesBreaths {X : mm_Cl} (hX : mm_mono X) {d c k : Nat} {Q : mm_Re → Prop} {h : mm_S} {x0 : Nat} {x1 : Int32} {x2 : Int32} {o : Int32} (hF : F_X6_takesBreaths h x0 x1 x2 = some o) (hQ : Q (.inl (some (.int o)), h)) : mm_Run X (d + 2) 159 c k [.ref x0, .int x1, .int x2] h Q := by
  unfold F_X6_takesBreaths at hF
  refine mm_Run_in (by decide) (by decide) (Nat.le_of_ble_eq_true rfl) ?_
  show mm_Ex (mm_Run X (d + 1)) 159 Q (0, [], [(0, .ref x0), (1, .int x1), (2, .int x2)], h) c k
  refine go_adv hX c_159 3 (F2 := (3, [.int (ki 5), .int x2, .ref x0], [(0, .ref x0), (1, .int x1), (2, .int x2)], h)) rfl ?_
  obtain ⟨_, e1, hF⟩ := mm_bind hF
  obtain ⟨v2, e3, hF⟩ := mm_bind hF
  refine go_cV hX (As := [.int x2, .int (ki 5)]) (rv := some (.int v2)) (h2 := h) (ci := 6) c_159 rfl (Nat.le_of_ble_eq_true rfl) rfl rfl e1 (by decide) (Nat.le_of_ble_eq_true rfl) (fun Q2 hQ2 => r_X6_sv hX (d := d) e3 hQ2) ?_
  refine go_adv hX c_159 1 (F2 := (7, [.int x1, .int v2], [(0, .ref x0), (1, .int x1), (2, .int x2)], h)) rfl ?_
  rcases mm_ite hF with ⟨hc4, hF⟩ | ⟨hc4, hF⟩
  · refine go_ct hX 19 c_159 rfl rfl hc4 ?_
    refine go_adv hX c_159 4 (F2 := (23, [.int (ki 2), .int x2, .ref x0, .int (ki 2)], [(0, .ref x0), (1, .int x1), (2, .int x2)], h)) rfl ?_
    obtain ⟨_, e5, hF⟩ := mm_bind hF
    obtain ⟨v6, e7, hF⟩ := mm_bind hF
    refine go_cV hX (As := [.int x2, .int (ki 2)]) (rv := some (.int v6)) (h2 := h) (ci := 6) c_159 rfl (Nat.le_of_ble_eq_true rfl) rfl rfl e5 (by decide) (Nat.le_of_ble_eq_true rfl) (fun Q2 hQ2 => r_X6_sv hX (d := d) e7 hQ2) ?_
    refine go_adv hX c_159 1 (F2 := (27, [.int ((ki 2) * v6)], [(0, .ref x0), (1, .int x1), (2, .int x2)], h)) rfl ?_
    cases hF
    exact go_iret hX c_159 rfl rfl rfl hQ
  · refine go_cf hX c_159 rfl (by decide) hc4 ?_
    refine go_adv hX c_159 3 (F2 := (13, [.int (ki 2), .int x2, .ref x0], [(0, .ref x0), (1, .int x1), (2, .int x2)], h)) rfl ?_
    obtain ⟨_, e8, hF⟩ := mm_bind hF
    obtain ⟨v9, e10, hF⟩ := mm_bind hF
    refine go_cV hX (As := [.int x2, .int (ki 2)]) (rv := some (.int v9)) (h2 := h) (ci := 6) c_159 rfl (Nat.le_of_ble_eq_true rfl) rfl rfl e8 (by decide) (Nat.le_of_ble_eq_true rfl) (fun Q2 hQ2 => r_X6_sv hX (d := d) e10 hQ2) ?_
    refine go_to hX 27 c_159 rfl rfl ?_
    cases hF
    exact go_iret hX c_159 rfl rfl rfl hQ
theorem c_160 : mm_cd 160 = k_X6_isRefusedClimb := rfl
def F_X6_isRefusedClimb (h : mm_S) (x0 : Nat) (x1 : Int32) (x2 : Int32) : Option (Int32 × mm_S) :=
  (fx_is h x0 6).bind fun _ =>
  (F_X6_isNoGiant h x0 x1).bind fun v2 =>
  if v2.1 ≠ 0 then
    some (ki 1, v2.2)
  else
    (fx_is v2.2 x0 6).bind fun _ =>
    (F_X6_isNoStair v2.2 x0 x2).bind fun v6 =>
    if v6.1 = 0 then
      (fx_is v6.2 x0 6).bind fun _ =>
      (F_X6_gv v6.2 x0 x1 (ki 1)).bind fun v10 =>
      (fx_is v6.2 x0 6).bind fun _ =>
      (F_X6_touches v6.2 x0 x2 v10).bind fun v13 =>
      if v13 ≠ 0 then
        (fx_is v6.2 x0 6).bind fun _ =>
        (F_X6_gv v6.2 x0 x1 (ki 1)).bind fun v17 =>
        (fx_is v6.2 x0 6).bind fun _ =>
        (F_X6_across v6.2 x0 x2 v17).bind fun v20 =>
        (fx_is v6.2 x0 6).bind fun _ =>
        (F_X6_owner v6.2 x0 v20).bind fun v23 =>
        if v23 ≠ (ki 2) then
          some (ki 0, v6.2)
        else
          (fx_is v6.2 x0 6).bind fun _ =>
          (F_X6_isBad v6.2 x0 (kb 9) v20).bind fun v27 =>
          if v27.1 = 0 then
            some (ki 0, v27.2)
          else
            some (ki 1, v27.2)
      else
        (fx_is v6.2 x0 6).bind fun _ =>
        (F_X6_gv v6.2 x0 x1 (ki 1)).bind fun v31 =>
        (fx_is v6.2 x0 6).bind fun _ =>
        (F_X6_isBad v6.2 x0 (kb 8) v31).bind fun v34 =>
        (fx_nar .boolean v34.1).bind fun v36 =>
        some (v36, v34.2)
    else
      some (ki 1, v6.2)
theorem r_X6_isRefusedClimb {X : mm_Cl} (hX : mm_mono X) {d c k : Nat} {Q : mm_Re → Prop} {h : mm_S} {x0 : Nat} {x1 : Int32} {x2 : Int32} {o : (Int32 × mm_S)} (hF : F_X6_isRefusedClimb h x0 x1 x2 = some o) (hQ : Q (.inl (some (.int o.1)), o.2)) : mm_Run X (d + 4) 160 c k [.ref x0, .int x1, .int x2] h Q := by
  unfold F_X6_isRefusedClimb at hF
  refine mm_Run_in (by decide) (by decide) (Nat.le_of_ble_eq_true rfl) ?_
  show mm_Ex (mm_Run X (d + 3)) 160 Q (0, [], [(0, .ref x0), (1, .int x1), (2, .int x2)], h) c k
  refine go_adv hX c_160 2 (F2 := (2, [.int x1, .ref x0], [(0, .ref x0), (1, .int x1), (2, .int x2)], h)) rfl ?_
  obtain ⟨_, e1, hF⟩ := mm_bind hF
  obtain ⟨v2, e3, hF⟩ := mm_bind hF
  refine go_cV hX (As := [.int x1]) (rv := some (.int v2.1)) (h2 := v2.2) (ci := 6) c_160 rfl (Nat.le_of_ble_eq_true rfl) rfl rfl e1 (by decide) (Nat.le_of_ble_eq_true rfl) (fun Q2 hQ2 => r_X6_isNoGiant hX (d := d) e3 hQ2) ?_
  rcases mm_ite hF with ⟨hc4, hF⟩ | ⟨hc4, hF⟩
  · refine go_zt hX 16 c_160 rfl rfl hc4 ?_
    refine go_adv hX c_160 1 (F2 := (17, [.int (ki 1)], [(0, .ref x0), (1, .int x1), (2, .int x2)], v2.2)) rfl ?_
    cases hF
    exact go_iret hX c_160 rfl rfl (by decide) hQ
  · refine go_zf hX c_160 rfl (by decide) hc4 ?_
    refine go_adv hX c_160 2 (F2 := (10, [.int x2, .ref x0], [(0, .ref x0), (1, .int x1), (2, .int x2)], v2.2)) rfl ?_
    obtain ⟨_, e5, hF⟩ := mm_bind hF
    obtain ⟨v6, e7, hF⟩ := mm_bind hF
    refine go_cV hX (As := [.int x2]) (rv := some (.int v6.1)) (h2 := v6.2) (ci := 6) c_160 rfl (Nat.le_of_ble_eq_true rfl) rfl rfl e5 (by decide) (Nat.le_of_ble_eq_true rfl) (fun Q2 hQ2 => r_X6_isNoStair hX (d := d) e7 hQ2) ?_
    rcases mm_ite hF with ⟨hc8, hF⟩ | ⟨hc8, hF⟩
    · refine go_zt hX 18 c_160 rfl rfl hc8 ?_
      refine go_adv hX c_160 5 (F2 := (23, [.int (ki 1), .int x1, .ref x0, .int x2, .ref x0], [(0, .ref x0), (1, .int x1), (2, .int x2)], v6.2)) rfl ?_
      obtain ⟨_, e9, hF⟩ := mm_bind hF
      obtain ⟨v10, e11, hF⟩ := mm_bind hF
      refine go_cV hX (As := [.int x1, .int (ki 1)]) (rv := some (.int v10)) (h2 := v6.2) (ci := 6) c_160 rfl (Nat.le_of_ble_eq_true rfl) rfl rfl e9 (by decide) (Nat.le_of_ble_eq_true rfl) (fun Q2 hQ2 => r_X6_gv hX (d := (d + 2)) e11 hQ2) ?_
      obtain ⟨_, e12, hF⟩ := mm_bind hF
      obtain ⟨v13, e14, hF⟩ := mm_bind hF
      refine go_cV hX (As := [.int x2, .int v10]) (rv := some (.int v13)) (h2 := v6.2) (ci := 6) c_160 rfl (Nat.le_of_ble_eq_true rfl) rfl rfl e12 (by decide) (Nat.le_of_ble_eq_true rfl) (fun Q2 hQ2 => r_X6_touches hX (d := (d + 1)) e14 hQ2) ?_
      rcases mm_ite hF with ⟨hc15, hF⟩ | ⟨hc15, hF⟩
      · refine go_zt hX 45 c_160 rfl rfl hc15 ?_
        refine go_adv hX c_160 5 (F2 := (50, [.int (ki 1), .int x1, .ref x0, .int x2, .ref x0], [(0, .ref x0), (1, .int x1), (2, .int x2)], v6.2)) rfl ?_
        obtain ⟨_, e16, hF⟩ := mm_bind hF
        obtain ⟨v17, e18, hF⟩ := mm_bind hF
        refine go_cV hX (As := [.int x1, .int (ki 1)]) (rv := some (.int v17)) (h2 := v6.2) (ci := 6) c_160 rfl (Nat.le_of_ble_eq_true rfl) rfl rfl e16 (by decide) (Nat.le_of_ble_eq_true rfl) (fun Q2 hQ2 => r_X6_gv hX (d := (d + 2)) e18 hQ2) ?_
        obtain ⟨_, e19, hF⟩ := mm_bind hF
        obtain ⟨v20, e21, hF⟩ := mm_bind hF
        refine go_cV hX (As := [.int x2, .int v17]) (rv := some (.int v20)) (h2 := v6.2) (ci := 6) c_160 rfl (Nat.le_of_ble_eq_true rfl) rfl rfl e19 (by decide) (Nat.le_of_ble_eq_true rfl) (fun Q2 hQ2 => r_X6_across hX (d := (d + 1)) e21 hQ2) ?_
        refine go_adv hX c_160 3 (F2 := (59, [.int v20, .ref x0], [(3, .int v20), (0, .ref x0), (1, .int x1), (2, .int x2)], v6.2)) rfl ?_
        obtain ⟨_, e22, hF⟩ := mm_bind hF
        obtain ⟨v23, e24, hF⟩ := mm_bind hF
        refine go_cV hX (As := [.int v20]) (rv := some (.int v23)) (h2 := v6.2) (ci := 6) c_160 rfl (Nat.le_of_ble_eq_true rfl) rfl rfl e22 (by decide) (Nat.le_of_ble_eq_true rfl) (fun Q2 hQ2 => r_X6_owner hX (d := (d + 2)) e24 hQ2) ?_
        refine go_adv hX c_160 1 (F2 := (63, [.int (ki 2), .int v23], [(3, .int v20), (0, .ref x0), (1, .int x1), (2, .int x2)], v6.2)) rfl ?_
        rcases mm_ite hF with ⟨hc25, hF⟩ | ⟨hc25, hF⟩
        · refine go_ct hX 80 c_160 rfl rfl hc25 ?_
          refine go_adv hX c_160 1 (F2 := (81, [.int (ki 0)], [(3, .int v20), (0, .ref x0), (1, .int x1), (2, .int x2)], v6.2)) rfl ?_
          cases hF
          exact go_iret hX c_160 rfl rfl (by decide) hQ
        · refine go_cf hX c_160 rfl (by decide) hc25 ?_
          refine go_adv hX c_160 3 (F2 := (70, [.int v20, .int (kb 9), .ref x0], [(3, .int v20), (0, .ref x0), (1, .int x1), (2, .int x2)], v6.2)) rfl ?_
          obtain ⟨_, e26, hF⟩ := mm_bind hF
          obtain ⟨v27, e28, hF⟩ := mm_bind hF
          refine go_cV hX (As := [.int (kb 9), .int v20]) (rv := some (.int v27.1)) (h2 := v27.2) (ci := 6) c_160 rfl (Nat.le_of_ble_eq_true rfl) rfl rfl e26 (by decide) (Nat.le_of_ble_eq_true rfl) (fun Q2 hQ2 => r_X6_isBad hX (d := (d + 2)) e28 hQ2) ?_
          rcases mm_ite hF with ⟨hc29, hF⟩ | ⟨hc29, hF⟩
          · refine go_zt hX 80 c_160 rfl rfl hc29 ?_
            refine go_adv hX c_160 1 (F2 := (81, [.int (ki 0)], [(3, .int v20), (0, .ref x0), (1, .int x1), (2, .int x2)], v27.2)) rfl ?_
            cases hF
            exact go_iret hX c_160 rfl rfl (by decide) hQ
          · refine go_zf hX c_160 rfl (by decide) hc29 ?_
            refine go_adv hX c_160 1 (F2 := (77, [.int (ki 1)], [(3, .int v20), (0, .ref x0), (1, .int x1), (2, .int x2)], v27.2)) rfl ?_
            refine go_to hX 81 c_160 rfl rfl ?_
            cases hF
            exact go_iret hX c_160 rfl rfl (by decide) hQ
      · refine go_zf hX c_160 rfl (by decide) hc15 ?_
        refine go_adv hX c_160 5 (F2 := (38, [.int (ki 1), .int x1, .ref x0, .int (kb 8), .ref x0], [(0, .ref x0), (1, .int x1), (2, .int x2)], v6.2)) rfl ?_
        obtain ⟨_, e30, hF⟩ := mm_bind hF
        obtain ⟨v31, e32, hF⟩ := mm_bind hF
        refine go_cV hX (As := [.int x1, .int (ki 1)]) (rv := some (.int v31)) (h2 := v6.2) (ci := 6) c_160 rfl (Nat.le_of_ble_eq_true rfl) rfl rfl e30 (by decide) (Nat.le_of_ble_eq_true rfl) (fun Q2 hQ2 => r_X6_gv hX (d := (d + 2)) e32 hQ2) ?_
        obtain ⟨_, e33, hF⟩ := mm_bind hF
        obtain ⟨v34, e35, hF⟩ := mm_bind hF
        refine go_cV hX (As := [.int (kb 8), .int v31]) (rv := some (.int v34.1)) (h2 := v34.2) (ci := 6) c_160 rfl (Nat.le_of_ble_eq_true rfl) rfl rfl e33 (by decide) (Nat.le_of_ble_eq_true rfl) (fun Q2 hQ2 => r_X6_isBad hX (d := (d + 2)) e35 hQ2) ?_
        obtain ⟨v36, e37, hF⟩ := mm_bind hF
        obtain ⟨rfl, e37n⟩ := fx_nar_s e37
        cases hF
        exact go_iret hX c_160 rfl rfl e37n hQ
    · refine go_zf hX c_160 rfl (by decide) hc8 ?_
      refine go_adv hX c_160 1 (F2 := (17, [.int (ki 1)], [(0, .ref x0), (1, .int x1), (2, .int x2)], v6.2)) rfl ?_
      cases hF
      exact go_iret hX c_160 rfl rfl (by decide) hQ
theorem c_161 : mm_cd 161 = k_X6_climbs := rfl
def F_X6_climbs_B90 (h : mm_S) (x0 : Nat) (x1 : Int32) (x2 : Int32) (x4 : Int32) : Option (Int32 × mm_S) :=
  (fx_is h x0 6).bind fun _ =>
  (F_X6_sv h x0 x2 (ki 3)).bind fun v19 =>
  (fx_is h x0 6).bind fun _ =>
  (F_X6_sv h x0 x2 (ki 3)).bind fun v22 =>
  (fx_div v22 (ki 2)).bind fun v24 =>
  (fx_is h x0 6).bind fun _ =>
  (F_X6_ls h x0 x2 (ki 3) (v19 - v24)).bind fun v27 =>
  (fx_is v27 x0 6).bind fun _ =>
  (F_X6_more v27 x0 x1 (ki 2) x4).bind fun v30 =>
  (fx_gR v30 x0 6 0).bind fun v32 =>
  (fx_aI v30 v32 (kb 7)).bind fun v34 =>
  (fx_sI v30 v32 (kb 7) (v34 + x4)).bind fun h36 =>
  some (x4, h36)
def F_X6_climbs (h : mm_S) (x0 : Nat) (x1 : Int32) (x2 : Int32) : Option (Int32 × mm_S) :=
  (fx_is h x0 6).bind fun _ =>
  (F_X6_gv h x0 x1 (ki 1)).bind fun v2 =>
  (fx_is h x0 6).bind fun _ =>
  (F_X6_across h x0 x2 v2).bind fun v5 =>
  (fx_is h x0 6).bind fun _ =>
  (F_X6_takesBreaths h x0 x1 x2).bind fun v8 =>
  (fx_gR h x0 6 0).bind fun v10 =>
  (fx_sI h v10 (((kb 12) + ((ki 5) * x1)) + (ki 1)) v5).bind fun h12 =>
  (fx_is h12 x0 6).bind fun _ =>
  (F_X6_owner h12 x0 v5).bind fun v15 =>
  if v15 ≠ ((ki 1) - x1) then
    F_X6_climbs_B90 h12 x0 x1 x2 v8
  else
    (fx_is h12 x0 6).bind fun _ =>
    (F_X6_gv h12 x0 x1 (ki 0)).bind fun v39 =>
    if v39 ≤ 0 then
      F_X6_climbs_B90 h12 x0 x1 x2 v8
    else
      (fx_is h12 x0 6).bind fun _ =>
      (F_X6_more h12 x0 x1 (ki 0) (ki (-1))).bind fun v43 =>
      (fx_is v43 x0 6).bind fun _ =>
      (F_X6_more v43 x0 ((ki 1) - x1) (ki 0) (ki 1)).bind fun v46 =>
      (fx_is v46 x0 6).bind fun _ =>
      (F_X6_more v46 x0 ((ki 1) - x1) (ki 4) (ki 1)).bind fun v49 =>
      (fx_gR v49 x0 6 0).bind fun v51 =>
      (fx_aI v49 v51 (kb 6)).bind fun v53 =>
      (fx_sI v49 v51 (kb 6) (v53 + (ki 1))).bind fun h55 =>
      F_X6_climbs_B90 h55 x0 x1 x2 v8
theorem r_X6_climbs_B90 {X : mm_Cl} (hX : mm_mono X) {d c k : Nat} {Q : mm_Re → Prop} {h : mm_S} {x0 : Nat} {x1 : Int32} {x2 : Int32} {x4 : Int32} {o : (Int32 × mm_S)} (hF : F_X6_climbs_B90 h x0 x1 x2 x4 = some o) (hQ : Q (.inl (some (.int o.1)), o.2)) : mm_Ex (mm_Run X (d + 2)) 161 Q (90, [], [(0, .ref x0), (1, .int x1), (2, .int x2), (4, .int x4)], h) c k := by
  unfold F_X6_climbs_B90 at hF
  refine go_adv hX c_161 6 (F2 := (96, [.int (ki 3), .int x2, .ref x0, .int (ki 3), .int x2, .ref x0], [(0, .ref x0), (1, .int x1), (2, .int x2), (4, .int x4)], h)) rfl ?_
  obtain ⟨_, e18, hF⟩ := mm_bind hF
  obtain ⟨v19, e20, hF⟩ := mm_bind hF
  refine go_cV hX (As := [.int x2, .int (ki 3)]) (rv := some (.int v19)) (h2 := h) (ci := 6) c_161 rfl (Nat.le_of_ble_eq_true rfl) rfl rfl e18 (by decide) (Nat.le_of_ble_eq_true rfl) (fun Q2 hQ2 => r_X6_sv hX (d := (d + 1)) e20 hQ2) ?_
  refine go_adv hX c_161 3 (F2 := (102, [.int (ki 3), .int x2, .ref x0, .int v19, .int (ki 3), .int x2, .ref x0], [(0, .ref x0), (1, .int x1), (2, .int x2), (4, .int x4)], h)) rfl ?_
  obtain ⟨_, e21, hF⟩ := mm_bind hF
  obtain ⟨v22, e23, hF⟩ := mm_bind hF
  refine go_cV hX (As := [.int x2, .int (ki 3)]) (rv := some (.int v22)) (h2 := h) (ci := 6) c_161 rfl (Nat.le_of_ble_eq_true rfl) rfl rfl e21 (by decide) (Nat.le_of_ble_eq_true rfl) (fun Q2 hQ2 => r_X6_sv hX (d := (d + 1)) e23 hQ2) ?_
  refine go_adv hX c_161 1 (F2 := (106, [.int (ki 2), .int v22, .int v19, .int (ki 3), .int x2, .ref x0], [(0, .ref x0), (1, .int x1), (2, .int x2), (4, .int x4)], h)) rfl ?_
  obtain ⟨v24, e25, hF⟩ := mm_bind hF
  refine go_div hX c_161 rfl e25 ?_
  refine go_adv hX c_161 1 (F2 := (108, [.int (v19 - v24), .int (ki 3), .int x2, .ref x0], [(0, .ref x0), (1, .int x1), (2, .int x2), (4, .int x4)], h)) rfl ?_
  obtain ⟨_, e26, hF⟩ := mm_bind hF
  obtain ⟨v27, e28, hF⟩ := mm_bind hF
  refine go_cV hX (As := [.int x2, .int (ki 3), .int (v19 - v24)]) (rv := none) (h2 := v27) (ci := 6) c_161 rfl (Nat.le_of_ble_eq_true rfl) rfl rfl e26 (by decide) (Nat.le_of_ble_eq_true rfl) (fun Q2 hQ2 => r_X6_ls hX (d := (d + 1)) e28 hQ2) ?_
  refine go_adv hX c_161 4 (F2 := (116, [.int x4, .int (ki 2), .int x1, .ref x0], [(0, .ref x0), (1, .int x1), (2, .int x2), (4, .int x4)], v27)) rfl ?_
  obtain ⟨_, e29, hF⟩ := mm_bind hF
  obtain ⟨v30, e31, hF⟩ := mm_bind hF
  refine go_cV hX (As := [.int x1, .int (ki 2), .int x4]) (rv := none) (h2 := v30) (ci := 6) c_161 rfl (Nat.le_of_ble_eq_true rfl) rfl rfl e29 (by decide) (Nat.le_of_ble_eq_true rfl) (fun Q2 hQ2 => r_X6_more hX (d := (d + 1)) e31 hQ2) ?_
  refine go_adv hX c_161 1 (F2 := (120, [.ref x0], [(0, .ref x0), (1, .int x1), (2, .int x2), (4, .int x4)], v30)) rfl ?_
  obtain ⟨v32, e33, hF⟩ := mm_bind hF
  refine go_gR hX c_161 rfl e33 ?_
  refine go_adv hX c_161 1 (F2 := (125, [.int (kb 7), .ref v32], [(0, .ref x0), (1, .int x1), (2, .int x2), (4, .int x4)], v30)) rfl ?_
  refine go_p hX c_161 rfl rfl ⟨rfl, rfl⟩ ?_
  obtain ⟨v34, e35, hF⟩ := mm_bind hF
  refine go_aI hX c_161 rfl e35 ?_
  refine go_adv hX c_161 2 (F2 := (130, [.int (v34 + x4), .int (kb 7), .ref v32], [(0, .ref x0), (1, .int x1), (2, .int x2), (4, .int x4)], v30)) rfl ?_
  obtain ⟨h36, e37, hF⟩ := mm_bind hF
  refine go_sI hX c_161 rfl e37 ?_
  refine go_adv hX c_161 1 (F2 := (133, [.int x4], [(0, .ref x0), (1, .int x1), (2, .int x2), (4, .int x4)], h36)) rfl ?_
  cases hF
  exact go_iret hX c_161 rfl rfl rfl hQ
theorem r_X6_climbs {X : mm_Cl} (hX : mm_mono X) {d c k : Nat} {Q : mm_Re → Prop} {h : mm_S} {x0 : Nat} {x1 : Int32} {x2 : Int32} {o : (Int32 × mm_S)} (hF : F_X6_climbs h x0 x1 x2 = some o) (hQ : Q (.inl (some (.int o.1)), o.2)) : mm_Run X (d + 3) 161 c k [.ref x0, .int x1, .int x2] h Q := by
  unfold F_X6_climbs at hF
  refine mm_Run_in (by decide) (by decide) (Nat.le_of_ble_eq_true rfl) ?_
  show mm_Ex (mm_Run X (d + 2)) 161 Q (0, [], [(0, .ref x0), (1, .int x1), (2, .int x2)], h) c k
  refine go_adv hX c_161 5 (F2 := (5, [.int (ki 1), .int x1, .ref x0, .int x2, .ref x0], [(0, .ref x0), (1, .int x1), (2, .int x2)], h)) rfl ?_
  obtain ⟨_, e1, hF⟩ := mm_bind hF
  obtain ⟨v2, e3, hF⟩ := mm_bind hF
  refine go_cV hX (As := [.int x1, .int (ki 1)]) (rv := some (.int v2)) (h2 := h) (ci := 6) c_161 rfl (Nat.le_of_ble_eq_true rfl) rfl rfl e1 (by decide) (Nat.le_of_ble_eq_true rfl) (fun Q2 hQ2 => r_X6_gv hX (d := (d + 1)) e3 hQ2) ?_
  obtain ⟨_, e4, hF⟩ := mm_bind hF
  obtain ⟨v5, e6, hF⟩ := mm_bind hF
  refine go_cV hX (As := [.int x2, .int v2]) (rv := some (.int v5)) (h2 := h) (ci := 6) c_161 rfl (Nat.le_of_ble_eq_true rfl) rfl rfl e4 (by decide) (Nat.le_of_ble_eq_true rfl) (fun Q2 hQ2 => r_X6_across hX (d := d) e6 hQ2) ?_
  refine go_adv hX c_161 4 (F2 := (15, [.int x2, .int x1, .ref x0], [(3, .int v5), (0, .ref x0), (1, .int x1), (2, .int x2)], h)) rfl ?_
  obtain ⟨_, e7, hF⟩ := mm_bind hF
  obtain ⟨v8, e9, hF⟩ := mm_bind hF
  refine go_cV hX (As := [.int x1, .int x2]) (rv := some (.int v8)) (h2 := h) (ci := 6) c_161 rfl (Nat.le_of_ble_eq_true rfl) rfl rfl e7 (by decide) (Nat.le_of_ble_eq_true rfl) (fun Q2 hQ2 => r_X6_takesBreaths hX (d := d) e9 hQ2) ?_
  refine go_adv hX c_161 2 (F2 := (21, [.ref x0], [(4, .int v8), (3, .int v5), (0, .ref x0), (1, .int x1), (2, .int x2)], h)) rfl ?_
  obtain ⟨v10, e11, hF⟩ := mm_bind hF
  refine go_gR hX c_161 rfl e11 ?_
  refine go_adv hX c_161 8 (F2 := (33, [.int v5, .int (((kb 12) + ((ki 5) * x1)) + (ki 1)), .ref v10], [(4, .int v8), (3, .int v5), (0, .ref x0), (1, .int x1), (2, .int x2)], h)) rfl ?_
  obtain ⟨h12, e13, hF⟩ := mm_bind hF
  refine go_sI hX c_161 rfl e13 ?_
  refine go_adv hX c_161 2 (F2 := (36, [.int v5, .ref x0], [(4, .int v8), (3, .int v5), (0, .ref x0), (1, .int x1), (2, .int x2)], h12)) rfl ?_
  obtain ⟨_, e14, hF⟩ := mm_bind hF
  obtain ⟨v15, e16, hF⟩ := mm_bind hF
  refine go_cV hX (As := [.int v5]) (rv := some (.int v15)) (h2 := h12) (ci := 6) c_161 rfl (Nat.le_of_ble_eq_true rfl) rfl rfl e14 (by decide) (Nat.le_of_ble_eq_true rfl) (fun Q2 hQ2 => r_X6_owner hX (d := (d + 1)) e16 hQ2) ?_
  refine go_adv hX c_161 3 (F2 := (42, [.int ((ki 1) - x1), .int v15], [(4, .int v8), (3, .int v5), (0, .ref x0), (1, .int x1), (2, .int x2)], h12)) rfl ?_
  rcases mm_ite hF with ⟨hc17, hF⟩ | ⟨hc17, hF⟩
  · refine go_ct hX 90 c_161 rfl rfl hc17 ?_
    refine go_ls [(0, .ref x0), (1, .int x1), (2, .int x2), (4, .int v8)] ⟨rfl, ⟨rfl, ⟨rfl, ⟨rfl, trivial⟩⟩⟩⟩ ?_
    exact r_X6_climbs_B90 hX hF hQ
  · refine go_cf hX c_161 rfl (by decide) hc17 ?_
    refine go_adv hX c_161 3 (F2 := (48, [.int (ki 0), .int x1, .ref x0], [(4, .int v8), (3, .int v5), (0, .ref x0), (1, .int x1), (2, .int x2)], h12)) rfl ?_
    obtain ⟨_, e38, hF⟩ := mm_bind hF
    obtain ⟨v39, e40, hF⟩ := mm_bind hF
    refine go_cV hX (As := [.int x1, .int (ki 0)]) (rv := some (.int v39)) (h2 := h12) (ci := 6) c_161 rfl (Nat.le_of_ble_eq_true rfl) rfl rfl e38 (by decide) (Nat.le_of_ble_eq_true rfl) (fun Q2 hQ2 => r_X6_gv hX (d := (d + 1)) e40 hQ2) ?_
    rcases mm_ite hF with ⟨hc41, hF⟩ | ⟨hc41, hF⟩
    · refine go_zt hX 90 c_161 rfl rfl hc41 ?_
      refine go_ls [(0, .ref x0), (1, .int x1), (2, .int x2), (4, .int v8)] ⟨rfl, ⟨rfl, ⟨rfl, ⟨rfl, trivial⟩⟩⟩⟩ ?_
      exact r_X6_climbs_B90 hX hF hQ
    · refine go_zf hX c_161 rfl (by decide) hc41 ?_
      refine go_adv hX c_161 4 (F2 := (58, [.int (ki (-1)), .int (ki 0), .int x1, .ref x0], [(4, .int v8), (3, .int v5), (0, .ref x0), (1, .int x1), (2, .int x2)], h12)) rfl ?_
      obtain ⟨_, e42, hF⟩ := mm_bind hF
      obtain ⟨v43, e44, hF⟩ := mm_bind hF
      refine go_cV hX (As := [.int x1, .int (ki 0), .int (ki (-1))]) (rv := none) (h2 := v43) (ci := 6) c_161 rfl (Nat.le_of_ble_eq_true rfl) rfl rfl e42 (by decide) (Nat.le_of_ble_eq_true rfl) (fun Q2 hQ2 => r_X6_more hX (d := (d + 1)) e44 hQ2) ?_
      refine go_adv hX c_161 6 (F2 := (67, [.int (ki 1), .int (ki 0), .int ((ki 1) - x1), .ref x0], [(4, .int v8), (3, .int v5), (0, .ref x0), (1, .int x1), (2, .int x2)], v43)) rfl ?_
      obtain ⟨_, e45, hF⟩ := mm_bind hF
      obtain ⟨v46, e47, hF⟩ := mm_bind hF
      refine go_cV hX (As := [.int ((ki 1) - x1), .int (ki 0), .int (ki 1)]) (rv := none) (h2 := v46) (ci := 6) c_161 rfl (Nat.le_of_ble_eq_true rfl) rfl rfl e45 (by decide) (Nat.le_of_ble_eq_true rfl) (fun Q2 hQ2 => r_X6_more hX (d := (d + 1)) e47 hQ2) ?_
      refine go_adv hX c_161 6 (F2 := (76, [.int (ki 1), .int (ki 4), .int ((ki 1) - x1), .ref x0], [(4, .int v8), (3, .int v5), (0, .ref x0), (1, .int x1), (2, .int x2)], v46)) rfl ?_
      obtain ⟨_, e48, hF⟩ := mm_bind hF
      obtain ⟨v49, e50, hF⟩ := mm_bind hF
      refine go_cV hX (As := [.int ((ki 1) - x1), .int (ki 4), .int (ki 1)]) (rv := none) (h2 := v49) (ci := 6) c_161 rfl (Nat.le_of_ble_eq_true rfl) rfl rfl e48 (by decide) (Nat.le_of_ble_eq_true rfl) (fun Q2 hQ2 => r_X6_more hX (d := (d + 1)) e50 hQ2) ?_
      refine go_adv hX c_161 1 (F2 := (80, [.ref x0], [(4, .int v8), (3, .int v5), (0, .ref x0), (1, .int x1), (2, .int x2)], v49)) rfl ?_
      obtain ⟨v51, e52, hF⟩ := mm_bind hF
      refine go_gR hX c_161 rfl e52 ?_
      refine go_adv hX c_161 1 (F2 := (85, [.int (kb 6), .ref v51], [(4, .int v8), (3, .int v5), (0, .ref x0), (1, .int x1), (2, .int x2)], v49)) rfl ?_
      refine go_p hX c_161 rfl rfl ⟨rfl, rfl⟩ ?_
      obtain ⟨v53, e54, hF⟩ := mm_bind hF
      refine go_aI hX c_161 rfl e54 ?_
      refine go_adv hX c_161 2 (F2 := (89, [.int (v53 + (ki 1)), .int (kb 6), .ref v51], [(4, .int v8), (3, .int v5), (0, .ref x0), (1, .int x1), (2, .int x2)], v49)) rfl ?_
      obtain ⟨h55, e56, hF⟩ := mm_bind hF
      refine go_sI hX c_161 rfl e56 ?_
      refine go_ls [(0, .ref x0), (1, .int x1), (2, .int x2), (4, .int v8)] ⟨rfl, ⟨rfl, ⟨rfl, ⟨rfl, trivial⟩⟩⟩⟩ ?_
      exact r_X6_climbs_B90 hX hF hQ
theorem c_162 : mm_cd 162 = k_X6_climb := rfl
def F_X6_climb (h : mm_S) (x0 : Nat) (x1 : Int32) (x2 : Int32) : Option (Int32 × mm_S) :=
  (fx_is h x0 6).bind fun _ =>
  (F_X6_begins h x0).bind fun v2 =>
  (fx_is v2 x0 6).bind fun _ =>
  (F_X6_isRefusedClimb v2 x0 x1 x2).bind fun v5 =>
  if v5.1 = 0 then
    (fx_is v5.2 x0 6).bind fun _ =>
    (F_X6_climbs v5.2 x0 x1 x2).bind fun v9 =>
    (fx_is v9.2 x0 6).bind fun _ =>
    (F_X6_keeps v9.2 x0 v9.1).bind fun v12 =>
    some (v12.1, v12.2)
  else
    (fx_is v5.2 x0 6).bind fun _ =>
    (F_X6_refused v5.2 x0).bind fun v15 =>
    some (v15.1, v15.2)
theorem r_X6_climb {X : mm_Cl} (hX : mm_mono X) {d c k : Nat} {Q : mm_Re → Prop} {h : mm_S} {x0 : Nat} {x1 : Int32} {x2 : Int32} {o : (Int32 × mm_S)} (hF : F_X6_climb h x0 x1 x2 = some o) (hQ : Q (.inl (some (.int o.1)), o.2)) : mm_Run X (d + 5) 162 c k [.ref x0, .int x1, .int x2] h Q := by
  unfold F_X6_climb at hF
  refine mm_Run_in (by decide) (by decide) (Nat.le_of_ble_eq_true rfl) ?_
  show mm_Ex (mm_Run X (d + 4)) 162 Q (0, [], [(0, .ref x0), (1, .int x1), (2, .int x2)], h) c k
  refine go_adv hX c_162 1 (F2 := (1, [.ref x0], [(0, .ref x0), (1, .int x1), (2, .int x2)], h)) rfl ?_
  obtain ⟨_, e1, hF⟩ := mm_bind hF
  obtain ⟨v2, e3, hF⟩ := mm_bind hF
  refine go_cV hX (As := []) (rv := none) (h2 := v2) (ci := 6) c_162 rfl (Nat.le_of_ble_eq_true rfl) rfl rfl e1 (by decide) (Nat.le_of_ble_eq_true rfl) (fun Q2 hQ2 => r_X6_begins hX (d := (d + 2)) e3 hQ2) ?_
  refine go_adv hX c_162 3 (F2 := (7, [.int x2, .int x1, .ref x0], [(0, .ref x0), (1, .int x1), (2, .int x2)], v2)) rfl ?_
  obtain ⟨_, e4, hF⟩ := mm_bind hF
  obtain ⟨v5, e6, hF⟩ := mm_bind hF
  refine go_cV hX (As := [.int x1, .int x2]) (rv := some (.int v5.1)) (h2 := v5.2) (ci := 6) c_162 rfl (Nat.le_of_ble_eq_true rfl) rfl rfl e4 (by decide) (Nat.le_of_ble_eq_true rfl) (fun Q2 hQ2 => r_X6_isRefusedClimb hX (d := d) e6 hQ2) ?_
  rcases mm_ite hF with ⟨hc7, hF⟩ | ⟨hc7, hF⟩
  · refine go_zt hX 20 c_162 rfl rfl hc7 ?_
    refine go_adv hX c_162 4 (F2 := (24, [.int x2, .int x1, .ref x0, .ref x0], [(0, .ref x0), (1, .int x1), (2, .int x2)], v5.2)) rfl ?_
    obtain ⟨_, e8, hF⟩ := mm_bind hF
    obtain ⟨v9, e10, hF⟩ := mm_bind hF
    refine go_cV hX (As := [.int x1, .int x2]) (rv := some (.int v9.1)) (h2 := v9.2) (ci := 6) c_162 rfl (Nat.le_of_ble_eq_true rfl) rfl rfl e8 (by decide) (Nat.le_of_ble_eq_true rfl) (fun Q2 hQ2 => r_X6_climbs hX (d := (d + 1)) e10 hQ2) ?_
    obtain ⟨_, e11, hF⟩ := mm_bind hF
    obtain ⟨v12, e13, hF⟩ := mm_bind hF
    refine go_cV hX (As := [.int v9.1]) (rv := some (.int v12.1)) (h2 := v12.2) (ci := 6) c_162 rfl (Nat.le_of_ble_eq_true rfl) rfl rfl e11 (by decide) (Nat.le_of_ble_eq_true rfl) (fun Q2 hQ2 => r_X6_keeps hX (d := (d + 2)) e13 hQ2) ?_
    cases hF
    exact go_iret hX c_162 rfl rfl rfl hQ
  · refine go_zf hX c_162 rfl (by decide) hc7 ?_
    refine go_adv hX c_162 1 (F2 := (14, [.ref x0], [(0, .ref x0), (1, .int x1), (2, .int x2)], v5.2)) rfl ?_
    obtain ⟨_, e14, hF⟩ := mm_bind hF
    obtain ⟨v15, e16, hF⟩ := mm_bind hF
    refine go_cV hX (As := []) (rv := some (.int v15.1)) (h2 := v15.2) (ci := 6) c_162 rfl (Nat.le_of_ble_eq_true rfl) rfl rfl e14 (by decide) (Nat.le_of_ble_eq_true rfl) (fun Q2 hQ2 => r_X6_refused hX (d := (d + 2)) e16 hQ2) ?_
    refine go_to hX 30 c_162 rfl rfl ?_
    cases hF
    exact go_iret hX c_162 rfl rfl rfl hQ
theorem c_163 : mm_cd 163 = k_X6_isRefusedLevy := rfl
def F_X6_isRefusedLevy_B54 (h : mm_S) (x0 : Nat) (x2 : Int32) : Option (Int32 × mm_S) :=
  (fx_is h x0 6).bind fun _ =>
  (F_X6_sv h x0 x2 (ki 3)).bind fun v17 =>
  if v17 ≠ 0 then
    some (ki 0, h)
  else
    (fx_is h x0 6).bind fun _ =>
    (F_X6_sv h x0 x2 (ki 2)).bind fun v21 =>
    (fx_is h x0 6).bind fun _ =>
    (F_X6_isBad h x0 (kb 11) v21).bind fun v24 =>
    if v24.1 = 0 then
      some (ki 0, v24.2)
    else
      some (ki 1, v24.2)
def F_X6_isRefusedLevy (h : mm_S) (x0 : Nat) (x1 : Int32) (x2 : Int32) : Option (Int32 × mm_S) :=
  (fx_is h x0 6).bind fun _ =>
  (F_X6_isNoGiant h x0 x1).bind fun v2 =>
  if v2.1 ≠ 0 then
    some (ki 1, v2.2)
  else
    (fx_is v2.2 x0 6).bind fun _ =>
    (F_X6_isNoStair v2.2 x0 x2).bind fun v6 =>
    if v6.1 = 0 then
      (fx_is v6.2 x0 6).bind fun _ =>
      (F_X6_sv v6.2 x0 x2 (ki 0)).bind fun v10 =>
      (fx_is v6.2 x0 6).bind fun _ =>
      (F_X6_owner v6.2 x0 v10).bind fun v13 =>
      if v13 = x1 then
        F_X6_isRefusedLevy_B54 v6.2 x0 x2
      else
        (fx_is v6.2 x0 6).bind fun _ =>
        (F_X6_sv v6.2 x0 x2 (ki 1)).bind fun v28 =>
        (fx_is v6.2 x0 6).bind fun _ =>
        (F_X6_owner v6.2 x0 v28).bind fun v31 =>
        if v31 = x1 then
          F_X6_isRefusedLevy_B54 v6.2 x0 x2
        else
          (fx_is v6.2 x0 6).bind fun _ =>
          (F_X6_isBad v6.2 x0 (kb 10) x2).bind fun v35 =>
          (fx_nar .boolean v35.1).bind fun v37 =>
          some (v37, v35.2)
    else
      some (ki 1, v6.2)
theorem r_X6_isRefusedLevy_B54 {X : mm_Cl} (hX : mm_mono X) {d c k : Nat} {Q : mm_Re → Prop} {h : mm_S} {x0 : Nat} {x2 : Int32} {o : (Int32 × mm_S)} (hF : F_X6_isRefusedLevy_B54 h x0 x2 = some o) (hQ : Q (.inl (some (.int o.1)), o.2)) : mm_Ex (mm_Run X (d + 3)) 163 Q (54, [], [(0, .ref x0), (2, .int x2)], h) c k := by
  unfold F_X6_isRefusedLevy_B54 at hF
  refine go_adv hX c_163 3 (F2 := (57, [.int (ki 3), .int x2, .ref x0], [(0, .ref x0), (2, .int x2)], h)) rfl ?_
  obtain ⟨_, e16, hF⟩ := mm_bind hF
  obtain ⟨v17, e18, hF⟩ := mm_bind hF
  refine go_cV hX (As := [.int x2, .int (ki 3)]) (rv := some (.int v17)) (h2 := h) (ci := 6) c_163 rfl (Nat.le_of_ble_eq_true rfl) rfl rfl e16 (by decide) (Nat.le_of_ble_eq_true rfl) (fun Q2 hQ2 => r_X6_sv hX (d := (d + 2)) e18 hQ2) ?_
  rcases mm_ite hF with ⟨hc19, hF⟩ | ⟨hc19, hF⟩
  · refine go_zt hX 82 c_163 rfl rfl hc19 ?_
    refine go_adv hX c_163 1 (F2 := (83, [.int (ki 0)], [(0, .ref x0), (2, .int x2)], h)) rfl ?_
    cases hF
    exact go_iret hX c_163 rfl rfl (by decide) hQ
  · refine go_zf hX c_163 rfl (by decide) hc19 ?_
    refine go_adv hX c_163 5 (F2 := (69, [.int (ki 2), .int x2, .ref x0, .int (kb 11), .ref x0], [(0, .ref x0), (2, .int x2)], h)) rfl ?_
    obtain ⟨_, e20, hF⟩ := mm_bind hF
    obtain ⟨v21, e22, hF⟩ := mm_bind hF
    refine go_cV hX (As := [.int x2, .int (ki 2)]) (rv := some (.int v21)) (h2 := h) (ci := 6) c_163 rfl (Nat.le_of_ble_eq_true rfl) rfl rfl e20 (by decide) (Nat.le_of_ble_eq_true rfl) (fun Q2 hQ2 => r_X6_sv hX (d := (d + 2)) e22 hQ2) ?_
    obtain ⟨_, e23, hF⟩ := mm_bind hF
    obtain ⟨v24, e25, hF⟩ := mm_bind hF
    refine go_cV hX (As := [.int (kb 11), .int v21]) (rv := some (.int v24.1)) (h2 := v24.2) (ci := 6) c_163 rfl (Nat.le_of_ble_eq_true rfl) rfl rfl e23 (by decide) (Nat.le_of_ble_eq_true rfl) (fun Q2 hQ2 => r_X6_isBad hX (d := (d + 2)) e25 hQ2) ?_
    rcases mm_ite hF with ⟨hc26, hF⟩ | ⟨hc26, hF⟩
    · refine go_zt hX 82 c_163 rfl rfl hc26 ?_
      refine go_adv hX c_163 1 (F2 := (83, [.int (ki 0)], [(0, .ref x0), (2, .int x2)], v24.2)) rfl ?_
      cases hF
      exact go_iret hX c_163 rfl rfl (by decide) hQ
    · refine go_zf hX c_163 rfl (by decide) hc26 ?_
      refine go_adv hX c_163 1 (F2 := (79, [.int (ki 1)], [(0, .ref x0), (2, .int x2)], v24.2)) rfl ?_
      refine go_to hX 83 c_163 rfl rfl ?_
      cases hF
      exact go_iret hX c_163 rfl rfl (by decide) hQ
theorem r_X6_isRefusedLevy {X : mm_Cl} (hX : mm_mono X) {d c k : Nat} {Q : mm_Re → Prop} {h : mm_S} {x0 : Nat} {x1 : Int32} {x2 : Int32} {o : (Int32 × mm_S)} (hF : F_X6_isRefusedLevy h x0 x1 x2 = some o) (hQ : Q (.inl (some (.int o.1)), o.2)) : mm_Run X (d + 4) 163 c k [.ref x0, .int x1, .int x2] h Q := by
  unfold F_X6_isRefusedLevy at hF
  refine mm_Run_in (by decide) (by decide) (Nat.le_of_ble_eq_true rfl) ?_
  show mm_Ex (mm_Run X (d + 3)) 163 Q (0, [], [(0, .ref x0), (1, .int x1), (2, .int x2)], h) c k
  refine go_adv hX c_163 2 (F2 := (2, [.int x1, .ref x0], [(0, .ref x0), (1, .int x1), (2, .int x2)], h)) rfl ?_
  obtain ⟨_, e1, hF⟩ := mm_bind hF
  obtain ⟨v2, e3, hF⟩ := mm_bind hF
  refine go_cV hX (As := [.int x1]) (rv := some (.int v2.1)) (h2 := v2.2) (ci := 6) c_163 rfl (Nat.le_of_ble_eq_true rfl) rfl rfl e1 (by decide) (Nat.le_of_ble_eq_true rfl) (fun Q2 hQ2 => r_X6_isNoGiant hX (d := d) e3 hQ2) ?_
  rcases mm_ite hF with ⟨hc4, hF⟩ | ⟨hc4, hF⟩
  · refine go_zt hX 16 c_163 rfl rfl hc4 ?_
    refine go_adv hX c_163 1 (F2 := (17, [.int (ki 1)], [(0, .ref x0), (1, .int x1), (2, .int x2)], v2.2)) rfl ?_
    cases hF
    exact go_iret hX c_163 rfl rfl (by decide) hQ
  · refine go_zf hX c_163 rfl (by decide) hc4 ?_
    refine go_adv hX c_163 2 (F2 := (10, [.int x2, .ref x0], [(0, .ref x0), (1, .int x1), (2, .int x2)], v2.2)) rfl ?_
    obtain ⟨_, e5, hF⟩ := mm_bind hF
    obtain ⟨v6, e7, hF⟩ := mm_bind hF
    refine go_cV hX (As := [.int x2]) (rv := some (.int v6.1)) (h2 := v6.2) (ci := 6) c_163 rfl (Nat.le_of_ble_eq_true rfl) rfl rfl e5 (by decide) (Nat.le_of_ble_eq_true rfl) (fun Q2 hQ2 => r_X6_isNoStair hX (d := d) e7 hQ2) ?_
    rcases mm_ite hF with ⟨hc8, hF⟩ | ⟨hc8, hF⟩
    · refine go_zt hX 18 c_163 rfl rfl hc8 ?_
      refine go_adv hX c_163 4 (F2 := (22, [.int (ki 0), .int x2, .ref x0, .ref x0], [(0, .ref x0), (1, .int x1), (2, .int x2)], v6.2)) rfl ?_
      obtain ⟨_, e9, hF⟩ := mm_bind hF
      obtain ⟨v10, e11, hF⟩ := mm_bind hF
      refine go_cV hX (As := [.int x2, .int (ki 0)]) (rv := some (.int v10)) (h2 := v6.2) (ci := 6) c_163 rfl (Nat.le_of_ble_eq_true rfl) rfl rfl e9 (by decide) (Nat.le_of_ble_eq_true rfl) (fun Q2 hQ2 => r_X6_sv hX (d := (d + 2)) e11 hQ2) ?_
      obtain ⟨_, e12, hF⟩ := mm_bind hF
      obtain ⟨v13, e14, hF⟩ := mm_bind hF
      refine go_cV hX (As := [.int v10]) (rv := some (.int v13)) (h2 := v6.2) (ci := 6) c_163 rfl (Nat.le_of_ble_eq_true rfl) rfl rfl e12 (by decide) (Nat.le_of_ble_eq_true rfl) (fun Q2 hQ2 => r_X6_owner hX (d := (d + 2)) e14 hQ2) ?_
      refine go_adv hX c_163 1 (F2 := (29, [.int x1, .int v13], [(0, .ref x0), (1, .int x1), (2, .int x2)], v6.2)) rfl ?_
      rcases mm_ite hF with ⟨hc15, hF⟩ | ⟨hc15, hF⟩
      · refine go_ct hX 54 c_163 rfl rfl hc15 ?_
        refine go_ls [(0, .ref x0), (2, .int x2)] ⟨rfl, ⟨rfl, trivial⟩⟩ ?_
        exact r_X6_isRefusedLevy_B54 hX hF hQ
      · refine go_cf hX c_163 rfl (by decide) hc15 ?_
        refine go_adv hX c_163 4 (F2 := (36, [.int (ki 1), .int x2, .ref x0, .ref x0], [(0, .ref x0), (1, .int x1), (2, .int x2)], v6.2)) rfl ?_
        obtain ⟨_, e27, hF⟩ := mm_bind hF
        obtain ⟨v28, e29, hF⟩ := mm_bind hF
        refine go_cV hX (As := [.int x2, .int (ki 1)]) (rv := some (.int v28)) (h2 := v6.2) (ci := 6) c_163 rfl (Nat.le_of_ble_eq_true rfl) rfl rfl e27 (by decide) (Nat.le_of_ble_eq_true rfl) (fun Q2 hQ2 => r_X6_sv hX (d := (d + 2)) e29 hQ2) ?_
        obtain ⟨_, e30, hF⟩ := mm_bind hF
        obtain ⟨v31, e32, hF⟩ := mm_bind hF
        refine go_cV hX (As := [.int v28]) (rv := some (.int v31)) (h2 := v6.2) (ci := 6) c_163 rfl (Nat.le_of_ble_eq_true rfl) rfl rfl e30 (by decide) (Nat.le_of_ble_eq_true rfl) (fun Q2 hQ2 => r_X6_owner hX (d := (d + 2)) e32 hQ2) ?_
        refine go_adv hX c_163 1 (F2 := (43, [.int x1, .int v31], [(0, .ref x0), (1, .int x1), (2, .int x2)], v6.2)) rfl ?_
        rcases mm_ite hF with ⟨hc33, hF⟩ | ⟨hc33, hF⟩
        · refine go_ct hX 54 c_163 rfl rfl hc33 ?_
          refine go_ls [(0, .ref x0), (2, .int x2)] ⟨rfl, ⟨rfl, trivial⟩⟩ ?_
          exact r_X6_isRefusedLevy_B54 hX hF hQ
        · refine go_cf hX c_163 rfl (by decide) hc33 ?_
          refine go_adv hX c_163 3 (F2 := (50, [.int x2, .int (kb 10), .ref x0], [(0, .ref x0), (1, .int x1), (2, .int x2)], v6.2)) rfl ?_
          obtain ⟨_, e34, hF⟩ := mm_bind hF
          obtain ⟨v35, e36, hF⟩ := mm_bind hF
          refine go_cV hX (As := [.int (kb 10), .int x2]) (rv := some (.int v35.1)) (h2 := v35.2) (ci := 6) c_163 rfl (Nat.le_of_ble_eq_true rfl) rfl rfl e34 (by decide) (Nat.le_of_ble_eq_true rfl) (fun Q2 hQ2 => r_X6_isBad hX (d := (d + 2)) e36 hQ2) ?_
          obtain ⟨v37, e38, hF⟩ := mm_bind hF
          obtain ⟨rfl, e38n⟩ := fx_nar_s e38
          cases hF
          exact go_iret hX c_163 rfl rfl e38n hQ
    · refine go_zf hX c_163 rfl (by decide) hc8 ?_
      refine go_adv hX c_163 1 (F2 := (17, [.int (ki 1)], [(0, .ref x0), (1, .int x1), (2, .int x2)], v6.2)) rfl ?_
      cases hF
      exact go_iret hX c_163 rfl rfl (by decide) hQ
theorem c_164 : mm_cd 164 = k_X6_levyBy := rfl
def F_X6_levyBy (h : mm_S) (x0 : Nat) (x1 : Int32) (x2 : Int32) : Option Int32 :=
  (fx_is h x0 6).bind fun _ =>
  (F_X6_sv h x0 x2 (ki 3)).bind fun v2 =>
  (fx_div v2 (ki 4)).bind fun v4 =>
  (fx_is h x0 6).bind fun _ =>
  (F_X6_gv h x0 ((ki 1) - x1) (ki 0)).bind fun v7 =>
  if v4 ≤ v7 then
    some v4
  else
    (fx_is h x0 6).bind fun _ =>
    (F_X6_gv h x0 ((ki 1) - x1) (ki 0)).bind fun v11 =>
    some v11
theorem r_X6_levyBy {X : mm_Cl} (hX : mm_mono X) {d c k : Nat} {Q : mm_Re → Prop} {h : mm_S} {x0 : Nat} {x1 : Int32} {x2 : Int32} {o : Int32} (hF : F_X6_levyBy h x0 x1 x2 = some o) (hQ : Q (.inl (some (.int o)), h)) : mm_Run X (d + 2) 164 c k [.ref x0, .int x1, .int x2] h Q := by
  unfold F_X6_levyBy at hF
  refine mm_Run_in (by decide) (by decide) (Nat.le_of_ble_eq_true rfl) ?_
  show mm_Ex (mm_Run X (d + 1)) 164 Q (0, [], [(0, .ref x0), (1, .int x1), (2, .int x2)], h) c k
  refine go_adv hX c_164 3 (F2 := (3, [.int (ki 3), .int x2, .ref x0], [(0, .ref x0), (1, .int x1), (2, .int x2)], h)) rfl ?_
  obtain ⟨_, e1, hF⟩ := mm_bind hF
  obtain ⟨v2, e3, hF⟩ := mm_bind hF
  refine go_cV hX (As := [.int x2, .int (ki 3)]) (rv := some (.int v2)) (h2 := h) (ci := 6) c_164 rfl (Nat.le_of_ble_eq_true rfl) rfl rfl e1 (by decide) (Nat.le_of_ble_eq_true rfl) (fun Q2 hQ2 => r_X6_sv hX (d := d) e3 hQ2) ?_
  refine go_adv hX c_164 1 (F2 := (7, [.int (ki 4), .int v2], [(0, .ref x0), (1, .int x1), (2, .int x2)], h)) rfl ?_
  obtain ⟨v4, e5, hF⟩ := mm_bind hF
  refine go_div hX c_164 rfl e5 ?_
  refine go_adv hX c_164 7 (F2 := (15, [.int (ki 0), .int ((ki 1) - x1), .ref x0, .int v4], [(3, .int v4), (0, .ref x0), (1, .int x1), (2, .int x2)], h)) rfl ?_
  obtain ⟨_, e6, hF⟩ := mm_bind hF
  obtain ⟨v7, e8, hF⟩ := mm_bind hF
  refine go_cV hX (As := [.int ((ki 1) - x1), .int (ki 0)]) (rv := some (.int v7)) (h2 := h) (ci := 6) c_164 rfl (Nat.le_of_ble_eq_true rfl) rfl rfl e6 (by decide) (Nat.le_of_ble_eq_true rfl) (fun Q2 hQ2 => r_X6_gv hX (d := d) e8 hQ2) ?_
  rcases mm_ite hF with ⟨hc9, hF⟩ | ⟨hc9, hF⟩
  · refine go_ct hX 32 c_164 rfl rfl hc9 ?_
    refine go_adv hX c_164 1 (F2 := (33, [.int v4], [(3, .int v4), (0, .ref x0), (1, .int x1), (2, .int x2)], h)) rfl ?_
    cases hF
    exact go_iret hX c_164 rfl rfl rfl hQ
  · refine go_cf hX c_164 rfl (by decide) hc9 ?_
    refine go_adv hX c_164 5 (F2 := (26, [.int (ki 0), .int ((ki 1) - x1), .ref x0], [(3, .int v4), (0, .ref x0), (1, .int x1), (2, .int x2)], h)) rfl ?_
    obtain ⟨_, e10, hF⟩ := mm_bind hF
    obtain ⟨v11, e12, hF⟩ := mm_bind hF
    refine go_cV hX (As := [.int ((ki 1) - x1), .int (ki 0)]) (rv := some (.int v11)) (h2 := h) (ci := 6) c_164 rfl (Nat.le_of_ble_eq_true rfl) rfl rfl e10 (by decide) (Nat.le_of_ble_eq_true rfl) (fun Q2 hQ2 => r_X6_gv hX (d := d) e12 hQ2) ?_
    refine go_to hX 33 c_164 rfl rfl ?_
    cases hF
    exact go_iret hX c_164 rfl rfl rfl hQ
theorem c_165 : mm_cd 165 = k_X6_levies := rfl
def F_X6_levies (h : mm_S) (x0 : Nat) (x1 : Int32) (x2 : Int32) : Option (Int32 × mm_S) :=
  (fx_is h x0 6).bind fun _ =>
  (F_X6_levyBy h x0 x1 x2).bind fun v2 =>
  (fx_is h x0 6).bind fun _ =>
  (F_X6_more h x0 x1 (ki 0) v2).bind fun v5 =>
  (fx_is v5 x0 6).bind fun _ =>
  (F_X6_more v5 x0 ((ki 1) - x1) (ki 0) (-v2)).bind fun v8 =>
  (fx_gR v8 x0 6 0).bind fun v10 =>
  (fx_aI v8 v10 (ki 5)).bind fun v12 =>
  (fx_sI v8 v10 (ki 5) (v12 + v2)).bind fun h14 =>
  (fx_is h14 x0 6).bind fun _ =>
  (F_X6_ls h14 x0 x2 (ki 3) (ki 0)).bind fun v17 =>
  some (v2, v17)
theorem r_X6_levies {X : mm_Cl} (hX : mm_mono X) {d c k : Nat} {Q : mm_Re → Prop} {h : mm_S} {x0 : Nat} {x1 : Int32} {x2 : Int32} {o : (Int32 × mm_S)} (hF : F_X6_levies h x0 x1 x2 = some o) (hQ : Q (.inl (some (.int o.1)), o.2)) : mm_Run X (d + 3) 165 c k [.ref x0, .int x1, .int x2] h Q := by
  unfold F_X6_levies at hF
  refine mm_Run_in (by decide) (by decide) (Nat.le_of_ble_eq_true rfl) ?_
  show mm_Ex (mm_Run X (d + 2)) 165 Q (0, [], [(0, .ref x0), (1, .int x1), (2, .int x2)], h) c k
  refine go_adv hX c_165 3 (F2 := (3, [.int x2, .int x1, .ref x0], [(0, .ref x0), (1, .int x1), (2, .int x2)], h)) rfl ?_
  obtain ⟨_, e1, hF⟩ := mm_bind hF
  obtain ⟨v2, e3, hF⟩ := mm_bind hF
  refine go_cV hX (As := [.int x1, .int x2]) (rv := some (.int v2)) (h2 := h) (ci := 6) c_165 rfl (Nat.le_of_ble_eq_true rfl) rfl rfl e1 (by decide) (Nat.le_of_ble_eq_true rfl) (fun Q2 hQ2 => r_X6_levyBy hX (d := d) e3 hQ2) ?_
  refine go_adv hX c_165 5 (F2 := (11, [.int v2, .int (ki 0), .int x1, .ref x0], [(3, .int v2), (0, .ref x0), (1, .int x1), (2, .int x2)], h)) rfl ?_
  obtain ⟨_, e4, hF⟩ := mm_bind hF
  obtain ⟨v5, e6, hF⟩ := mm_bind hF
  refine go_cV hX (As := [.int x1, .int (ki 0), .int v2]) (rv := none) (h2 := v5) (ci := 6) c_165 rfl (Nat.le_of_ble_eq_true rfl) rfl rfl e4 (by decide) (Nat.le_of_ble_eq_true rfl) (fun Q2 hQ2 => r_X6_more hX (d := (d + 1)) e6 hQ2) ?_
  refine go_adv hX c_165 7 (F2 := (21, [.int (-v2), .int (ki 0), .int ((ki 1) - x1), .ref x0], [(3, .int v2), (0, .ref x0), (1, .int x1), (2, .int x2)], v5)) rfl ?_
  obtain ⟨_, e7, hF⟩ := mm_bind hF
  obtain ⟨v8, e9, hF⟩ := mm_bind hF
  refine go_cV hX (As := [.int ((ki 1) - x1), .int (ki 0), .int (-v2)]) (rv := none) (h2 := v8) (ci := 6) c_165 rfl (Nat.le_of_ble_eq_true rfl) rfl rfl e7 (by decide) (Nat.le_of_ble_eq_true rfl) (fun Q2 hQ2 => r_X6_more hX (d := (d + 1)) e9 hQ2) ?_
  refine go_adv hX c_165 1 (F2 := (25, [.ref x0], [(3, .int v2), (0, .ref x0), (1, .int x1), (2, .int x2)], v8)) rfl ?_
  obtain ⟨v10, e11, hF⟩ := mm_bind hF
  refine go_gR hX c_165 rfl e11 ?_
  refine go_adv hX c_165 1 (F2 := (29, [.int (ki 5), .ref v10], [(3, .int v2), (0, .ref x0), (1, .int x1), (2, .int x2)], v8)) rfl ?_
  refine go_p hX c_165 rfl rfl ⟨rfl, rfl⟩ ?_
  obtain ⟨v12, e13, hF⟩ := mm_bind hF
  refine go_aI hX c_165 rfl e13 ?_
  refine go_adv hX c_165 2 (F2 := (33, [.int (v12 + v2), .int (ki 5), .ref v10], [(3, .int v2), (0, .ref x0), (1, .int x1), (2, .int x2)], v8)) rfl ?_
  obtain ⟨h14, e15, hF⟩ := mm_bind hF
  refine go_sI hX c_165 rfl e15 ?_
  refine go_adv hX c_165 4 (F2 := (38, [.int (ki 0), .int (ki 3), .int x2, .ref x0], [(3, .int v2), (0, .ref x0), (1, .int x1), (2, .int x2)], h14)) rfl ?_
  obtain ⟨_, e16, hF⟩ := mm_bind hF
  obtain ⟨v17, e18, hF⟩ := mm_bind hF
  refine go_cV hX (As := [.int x2, .int (ki 3), .int (ki 0)]) (rv := none) (h2 := v17) (ci := 6) c_165 rfl (Nat.le_of_ble_eq_true rfl) rfl rfl e16 (by decide) (Nat.le_of_ble_eq_true rfl) (fun Q2 hQ2 => r_X6_ls hX (d := (d + 1)) e18 hQ2) ?_
  refine go_adv hX c_165 1 (F2 := (42, [.int v2], [(3, .int v2), (0, .ref x0), (1, .int x1), (2, .int x2)], v17)) rfl ?_
  cases hF
  exact go_iret hX c_165 rfl rfl rfl hQ
theorem c_166 : mm_cd 166 = k_X6_levy := rfl
def F_X6_levy (h : mm_S) (x0 : Nat) (x1 : Int32) (x2 : Int32) : Option (Int32 × mm_S) :=
  (fx_is h x0 6).bind fun _ =>
  (F_X6_begins h x0).bind fun v2 =>
  (fx_is v2 x0 6).bind fun _ =>
  (F_X6_isRefusedLevy v2 x0 x1 x2).bind fun v5 =>
  if v5.1 = 0 then
    (fx_is v5.2 x0 6).bind fun _ =>
    (F_X6_levies v5.2 x0 x1 x2).bind fun v9 =>
    (fx_is v9.2 x0 6).bind fun _ =>
    (F_X6_keeps v9.2 x0 v9.1).bind fun v12 =>
    some (v12.1, v12.2)
  else
    (fx_is v5.2 x0 6).bind fun _ =>
    (F_X6_refused v5.2 x0).bind fun v15 =>
    some (v15.1, v15.2)
theorem r_X6_levy {X : mm_Cl} (hX : mm_mono X) {d c k : Nat} {Q : mm_Re → Prop} {h : mm_S} {x0 : Nat} {x1 : Int32} {x2 : Int32} {o : (Int32 × mm_S)} (hF : F_X6_levy h x0 x1 x2 = some o) (hQ : Q (.inl (some (.int o.1)), o.2)) : mm_Run X (d + 5) 166 c k [.ref x0, .int x1, .int x2] h Q := by
  unfold F_X6_levy at hF
  refine mm_Run_in (by decide) (by decide) (Nat.le_of_ble_eq_true rfl) ?_
  show mm_Ex (mm_Run X (d + 4)) 166 Q (0, [], [(0, .ref x0), (1, .int x1), (2, .int x2)], h) c k
  refine go_adv hX c_166 1 (F2 := (1, [.ref x0], [(0, .ref x0), (1, .int x1), (2, .int x2)], h)) rfl ?_
  obtain ⟨_, e1, hF⟩ := mm_bind hF
  obtain ⟨v2, e3, hF⟩ := mm_bind hF
  refine go_cV hX (As := []) (rv := none) (h2 := v2) (ci := 6) c_166 rfl (Nat.le_of_ble_eq_true rfl) rfl rfl e1 (by decide) (Nat.le_of_ble_eq_true rfl) (fun Q2 hQ2 => r_X6_begins hX (d := (d + 2)) e3 hQ2) ?_
  refine go_adv hX c_166 3 (F2 := (7, [.int x2, .int x1, .ref x0], [(0, .ref x0), (1, .int x1), (2, .int x2)], v2)) rfl ?_
  obtain ⟨_, e4, hF⟩ := mm_bind hF
  obtain ⟨v5, e6, hF⟩ := mm_bind hF
  refine go_cV hX (As := [.int x1, .int x2]) (rv := some (.int v5.1)) (h2 := v5.2) (ci := 6) c_166 rfl (Nat.le_of_ble_eq_true rfl) rfl rfl e4 (by decide) (Nat.le_of_ble_eq_true rfl) (fun Q2 hQ2 => r_X6_isRefusedLevy hX (d := d) e6 hQ2) ?_
  rcases mm_ite hF with ⟨hc7, hF⟩ | ⟨hc7, hF⟩
  · refine go_zt hX 20 c_166 rfl rfl hc7 ?_
    refine go_adv hX c_166 4 (F2 := (24, [.int x2, .int x1, .ref x0, .ref x0], [(0, .ref x0), (1, .int x1), (2, .int x2)], v5.2)) rfl ?_
    obtain ⟨_, e8, hF⟩ := mm_bind hF
    obtain ⟨v9, e10, hF⟩ := mm_bind hF
    refine go_cV hX (As := [.int x1, .int x2]) (rv := some (.int v9.1)) (h2 := v9.2) (ci := 6) c_166 rfl (Nat.le_of_ble_eq_true rfl) rfl rfl e8 (by decide) (Nat.le_of_ble_eq_true rfl) (fun Q2 hQ2 => r_X6_levies hX (d := (d + 1)) e10 hQ2) ?_
    obtain ⟨_, e11, hF⟩ := mm_bind hF
    obtain ⟨v12, e13, hF⟩ := mm_bind hF
    refine go_cV hX (As := [.int v9.1]) (rv := some (.int v12.1)) (h2 := v12.2) (ci := 6) c_166 rfl (Nat.le_of_ble_eq_true rfl) rfl rfl e11 (by decide) (Nat.le_of_ble_eq_true rfl) (fun Q2 hQ2 => r_X6_keeps hX (d := (d + 2)) e13 hQ2) ?_
    cases hF
    exact go_iret hX c_166 rfl rfl rfl hQ
  · refine go_zf hX c_166 rfl (by decide) hc7 ?_
    refine go_adv hX c_166 1 (F2 := (14, [.ref x0], [(0, .ref x0), (1, .int x1), (2, .int x2)], v5.2)) rfl ?_
    obtain ⟨_, e14, hF⟩ := mm_bind hF
    obtain ⟨v15, e16, hF⟩ := mm_bind hF
    refine go_cV hX (As := []) (rv := some (.int v15.1)) (h2 := v15.2) (ci := 6) c_166 rfl (Nat.le_of_ble_eq_true rfl) rfl rfl e14 (by decide) (Nat.le_of_ble_eq_true rfl) (fun Q2 hQ2 => r_X6_refused hX (d := (d + 2)) e16 hQ2) ?_
    refine go_to hX 30 c_166 rfl rfl ?_
    cases hF
    exact go_iret hX c_166 rfl rfl rfl hQ
theorem c_167 : mm_cd 167 = k_X6_standing := rfl
def F_X6_standing (h : mm_S) (x0 : Nat) (x1 : Int32) : Option Int32 :=
  (fx_is h x0 6).bind fun _ =>
  (F_X6_gv h x0 (ki 0) (ki 1)).bind fun v2 =>
  if v2 ≠ x1 then
    (fx_is h x0 6).bind fun _ =>
    (F_X6_gv h x0 (ki 1) (ki 1)).bind fun v6 =>
    if v6 ≠ x1 then
      some (ki (-1))
    else
      some (ki 1)
  else
    some (ki 0)
theorem r_X6_standing {X : mm_Cl} (hX : mm_mono X) {d c k : Nat} {Q : mm_Re → Prop} {h : mm_S} {x0 : Nat} {x1 : Int32} {o : Int32} (hF : F_X6_standing h x0 x1 = some o) (hQ : Q (.inl (some (.int o)), h)) : mm_Run X (d + 2) 167 c k [.ref x0, .int x1] h Q := by
  unfold F_X6_standing at hF
  refine mm_Run_in (by decide) (by decide) (Nat.le_of_ble_eq_true rfl) ?_
  show mm_Ex (mm_Run X (d + 1)) 167 Q (0, [], [(0, .ref x0), (1, .int x1)], h) c k
  refine go_adv hX c_167 3 (F2 := (3, [.int (ki 1), .int (ki 0), .ref x0], [(0, .ref x0), (1, .int x1)], h)) rfl ?_
  obtain ⟨_, e1, hF⟩ := mm_bind hF
  obtain ⟨v2, e3, hF⟩ := mm_bind hF
  refine go_cV hX (As := [.int (ki 0), .int (ki 1)]) (rv := some (.int v2)) (h2 := h) (ci := 6) c_167 rfl (Nat.le_of_ble_eq_true rfl) rfl rfl e1 (by decide) (Nat.le_of_ble_eq_true rfl) (fun Q2 hQ2 => r_X6_gv hX (d := d) e3 hQ2) ?_
  refine go_adv hX c_167 1 (F2 := (7, [.int x1, .int v2], [(0, .ref x0), (1, .int x1)], h)) rfl ?_
  rcases mm_ite hF with ⟨hc4, hF⟩ | ⟨hc4, hF⟩
  · refine go_ct hX 14 c_167 rfl rfl hc4 ?_
    refine go_adv hX c_167 3 (F2 := (17, [.int (ki 1), .int (ki 1), .ref x0], [(0, .ref x0), (1, .int x1)], h)) rfl ?_
    obtain ⟨_, e5, hF⟩ := mm_bind hF
    obtain ⟨v6, e7, hF⟩ := mm_bind hF
    refine go_cV hX (As := [.int (ki 1), .int (ki 1)]) (rv := some (.int v6)) (h2 := h) (ci := 6) c_167 rfl (Nat.le_of_ble_eq_true rfl) rfl rfl e5 (by decide) (Nat.le_of_ble_eq_true rfl) (fun Q2 hQ2 => r_X6_gv hX (d := d) e7 hQ2) ?_
    refine go_adv hX c_167 1 (F2 := (21, [.int x1, .int v6], [(0, .ref x0), (1, .int x1)], h)) rfl ?_
    rcases mm_ite hF with ⟨hc8, hF⟩ | ⟨hc8, hF⟩
    · refine go_ct hX 28 c_167 rfl rfl hc8 ?_
      refine go_adv hX c_167 1 (F2 := (29, [.int (ki (-1))], [(0, .ref x0), (1, .int x1)], h)) rfl ?_
      cases hF
      exact go_iret hX c_167 rfl rfl rfl hQ
    · refine go_cf hX c_167 rfl (by decide) hc8 ?_
      refine go_adv hX c_167 1 (F2 := (25, [.int (ki 1)], [(0, .ref x0), (1, .int x1)], h)) rfl ?_
      refine go_to hX 29 c_167 rfl rfl ?_
      cases hF
      exact go_iret hX c_167 rfl rfl rfl hQ
  · refine go_cf hX c_167 rfl (by decide) hc4 ?_
    refine go_adv hX c_167 1 (F2 := (11, [.int (ki 0)], [(0, .ref x0), (1, .int x1)], h)) rfl ?_
    refine go_to hX 29 c_167 rfl rfl ?_
    cases hF
    exact go_iret hX c_167 rfl rfl rfl hQ
theorem c_168 : mm_cd 168 = k_X6_landingsOf := rfl
def F_X6_landingsOf_L4 (h : mm_S) : Nat → Nat → Int32 → Int32 → Int32 → Option Int32
  | 0, _, _, _, _ => none
  | n + 1, x0, x1, x2, x3 =>
    if (kb 8) ≤ x3 then
      some x2
    else
      (fx_is h x0 6).bind fun _ =>
      (F_X6_owner h x0 x3).bind fun v3 =>
      if v3 ≠ x1 then
        F_X6_landingsOf_L4 h n x0 x1 (x2 + (ki 0)) (x3 + ki 1)
      else
        F_X6_landingsOf_L4 h n x0 x1 (x2 + (ki 1)) (x3 + ki 1)
def F_X6_landingsOf (h : mm_S) (x0 : Nat) (x1 : Int32) : Option Int32 :=
  (F_X6_landingsOf_L4 h 1000 x0 x1 (ki 0) (ki 0)).bind fun o6 =>
  some o6
theorem r_X6_landingsOf_L4 {X : mm_Cl} (hX : mm_mono X) {d c k : Nat} {Q : mm_Re → Prop} {h : mm_S} : ∀ (n : Nat) (x0 : Nat) (x1 : Int32) (x2 : Int32) (x3 : Int32) (o : Int32), F_X6_landingsOf_L4 h n x0 x1 x2 x3 = some o → (mm_Ex (mm_Run X (d + 1)) 168 Q (33, [], [(2, .int o)], h) c k) → mm_Ex (mm_Run X (d + 1)) 168 Q (4, [], [(0, .ref x0), (1, .int x1), (2, .int x2), (3, .int x3)], h) c k := by
  intro n
  induction n with
  | zero => intro x0 x1 x2 x3 o hF; cases hF
  | succ n ih =>
    intro x0 x1 x2 x3 o hF hE
    unfold F_X6_landingsOf_L4 at hF
    refine go_adv hX c_168 2 (F2 := (7, [.int (kb 8), .int x3], [(0, .ref x0), (1, .int x1), (2, .int x2), (3, .int x3)], h)) rfl ?_
    rcases mm_ite hF with ⟨hc1, hF⟩ | ⟨hc1, hF⟩
    · refine go_ct hX 33 c_168 rfl rfl hc1 ?_
      cases hF
      refine go_ls [(2, .int x2)] ⟨rfl, trivial⟩ ?_
      exact hE
    · refine go_cf hX c_168 rfl (by decide) hc1 ?_
      refine go_adv hX c_168 3 (F2 := (13, [.int x3, .ref x0, .int x2], [(0, .ref x0), (1, .int x1), (2, .int x2), (3, .int x3)], h)) rfl ?_
      obtain ⟨_, e2, hF⟩ := mm_bind hF
      obtain ⟨v3, e4, hF⟩ := mm_bind hF
      refine go_cV hX (As := [.int x3]) (rv := some (.int v3)) (h2 := h) (ci := 6) c_168 rfl (Nat.le_of_ble_eq_true rfl) rfl rfl e2 (by decide) (Nat.le_of_ble_eq_true rfl) (fun Q2 hQ2 => r_X6_owner hX (d := d) e4 hQ2) ?_
      refine go_adv hX c_168 1 (F2 := (17, [.int x1, .int v3, .int x2], [(0, .ref x0), (1, .int x1), (2, .int x2), (3, .int x3)], h)) rfl ?_
      rcases mm_ite hF with ⟨hc5, hF⟩ | ⟨hc5, hF⟩
      · refine go_ct hX 24 c_168 rfl rfl hc5 ?_
        refine go_adv hX c_168 4 (F2 := (30, [], [(3, .int (x3 + ki 1)), (2, .int (x2 + (ki 0))), (0, .ref x0), (1, .int x1)], h)) rfl ?_
        refine go_to hX 4 c_168 rfl rfl ?_
        refine go_ls [(0, .ref x0), (1, .int x1), (2, .int (x2 + (ki 0))), (3, .int (x3 + ki 1))] ⟨rfl, ⟨rfl, ⟨rfl, ⟨rfl, trivial⟩⟩⟩⟩ ?_
        exact ih x0 x1 (x2 + (ki 0)) (x3 + ki 1) _ hF hE
      · refine go_cf hX c_168 rfl (by decide) hc5 ?_
        refine go_adv hX c_168 1 (F2 := (21, [.int (ki 1), .int x2], [(0, .ref x0), (1, .int x1), (2, .int x2), (3, .int x3)], h)) rfl ?_
        refine go_to hX 25 c_168 rfl rfl ?_
        refine go_adv hX c_168 3 (F2 := (30, [], [(3, .int (x3 + ki 1)), (2, .int (x2 + (ki 1))), (0, .ref x0), (1, .int x1)], h)) rfl ?_
        refine go_to hX 4 c_168 rfl rfl ?_
        refine go_ls [(0, .ref x0), (1, .int x1), (2, .int (x2 + (ki 1))), (3, .int (x3 + ki 1))] ⟨rfl, ⟨rfl, ⟨rfl, ⟨rfl, trivial⟩⟩⟩⟩ ?_
        exact ih x0 x1 (x2 + (ki 1)) (x3 + ki 1) _ hF hE
theorem r_X6_landingsOf {X : mm_Cl} (hX : mm_mono X) {d c k : Nat} {Q : mm_Re → Prop} {h : mm_S} {x0 : Nat} {x1 : Int32} {o : Int32} (hF : F_X6_landingsOf h x0 x1 = some o) (hQ : Q (.inl (some (.int o)), h)) : mm_Run X (d + 2) 168 c k [.ref x0, .int x1] h Q := by
  unfold F_X6_landingsOf at hF
  refine mm_Run_in (by decide) (by decide) (Nat.le_of_ble_eq_true rfl) ?_
  show mm_Ex (mm_Run X (d + 1)) 168 Q (0, [], [(0, .ref x0), (1, .int x1)], h) c k
  refine go_adv hX c_168 4 (F2 := (4, [], [(3, .int (ki 0)), (2, .int (ki 0)), (0, .ref x0), (1, .int x1)], h)) rfl ?_
  refine go_ls [(0, .ref x0), (1, .int x1), (2, .int (ki 0)), (3, .int (ki 0))] ⟨rfl, ⟨rfl, ⟨rfl, ⟨rfl, trivial⟩⟩⟩⟩ ?_
  obtain ⟨o6, e7, hF⟩ := mm_bind hF
  refine r_X6_landingsOf_L4 hX 1000 x0 x1 (ki 0) (ki 0) o6 e7 ?_
  refine go_adv hX c_168 1 (F2 := (34, [.int o6], [(2, .int o6)], h)) rfl ?_
  cases hF
  exact go_iret hX c_168 rfl rfl rfl hQ
theorem c_169 : mm_cd 169 = k_X6_isJoined := rfl
def F_X6_isJoined_L2 (h : mm_S) : Nat → Nat → Int32 → Int32 → Int32 → Option (Int32 ⊕ Unit)
  | 0, _, _, _, _ => none
  | n + 1, x0, x1, x2, x3 =>
    (fx_gR h x0 6 0).bind fun v1 =>
    (fx_aI h v1 (ki 0)).bind fun v3 =>
    if v3 ≤ x3 then
      some (.inr (()))
    else
      (fx_is h x0 6).bind fun _ =>
      (F_X6_touches h x0 x3 x1).bind fun v7 =>
      if v7 = 0 then
        F_X6_isJoined_L2 h n x0 x1 x2 (x3 + ki 1)
      else
        (fx_is h x0 6).bind fun _ =>
        (F_X6_across h x0 x3 x1).bind fun v11 =>
        (fx_is h x0 6).bind fun _ =>
        (F_X6_owner h x0 v11).bind fun v14 =>
        if v14 ≠ x2 then
          F_X6_isJoined_L2 h n x0 x1 x2 (x3 + ki 1)
        else
          some (.inl (ki 1))
def F_X6_isJoined (h : mm_S) (x0 : Nat) (x1 : Int32) (x2 : Int32) : Option Int32 :=
  (F_X6_isJoined_L2 h 1000 x0 x1 x2 (ki 0)).bind fun o17 => match o17 with
    | .inl o17r => some o17r
    | .inr o17e =>
      some (ki 0)
theorem r_X6_isJoined_L2 {X : mm_Cl} (hX : mm_mono X) {d c k : Nat} {Q : mm_Re → Prop} {h : mm_S} : ∀ (n : Nat) (x0 : Nat) (x1 : Int32) (x2 : Int32) (x3 : Int32) (o : (Int32 ⊕ Unit)), F_X6_isJoined_L2 h n x0 x1 x2 x3 = some o → (∀ r, o = .inl r → Q (.inl (some (.int r)), h)) → (∀ e, o = .inr e → mm_Ex (mm_Run X (d + 2)) 169 Q (43, [], [], h) c k) → mm_Ex (mm_Run X (d + 2)) 169 Q (2, [], [(0, .ref x0), (1, .int x1), (2, .int x2), (3, .int x3)], h) c k := by
  intro n
  induction n with
  | zero => intro x0 x1 x2 x3 o hF; cases hF
  | succ n ih =>
    intro x0 x1 x2 x3 o hF hR hE
    unfold F_X6_isJoined_L2 at hF
    refine go_adv hX c_169 2 (F2 := (4, [.ref x0, .int x3], [(0, .ref x0), (1, .int x1), (2, .int x2), (3, .int x3)], h)) rfl ?_
    obtain ⟨v1, e2, hF⟩ := mm_bind hF
    refine go_gR hX c_169 rfl e2 ?_
    refine go_adv hX c_169 1 (F2 := (8, [.int (ki 0), .ref v1, .int x3], [(0, .ref x0), (1, .int x1), (2, .int x2), (3, .int x3)], h)) rfl ?_
    obtain ⟨v3, e4, hF⟩ := mm_bind hF
    refine go_aI hX c_169 rfl e4 ?_
    rcases mm_ite hF with ⟨hc5, hF⟩ | ⟨hc5, hF⟩
    · refine go_ct hX 43 c_169 rfl rfl hc5 ?_
      cases hF
      refine go_ls [] trivial ?_
      exact hE _ rfl
    · refine go_cf hX c_169 rfl (by decide) hc5 ?_
      refine go_adv hX c_169 3 (F2 := (15, [.int x1, .int x3, .ref x0], [(0, .ref x0), (1, .int x1), (2, .int x2), (3, .int x3)], h)) rfl ?_
      obtain ⟨_, e6, hF⟩ := mm_bind hF
      obtain ⟨v7, e8, hF⟩ := mm_bind hF
      refine go_cV hX (As := [.int x3, .int x1]) (rv := some (.int v7)) (h2 := h) (ci := 6) c_169 rfl (Nat.le_of_ble_eq_true rfl) rfl rfl e6 (by decide) (Nat.le_of_ble_eq_true rfl) (fun Q2 hQ2 => r_X6_touches hX (d := d) e8 hQ2) ?_
      rcases mm_ite hF with ⟨hc9, hF⟩ | ⟨hc9, hF⟩
      · refine go_zt hX 37 c_169 rfl rfl hc9 ?_
        refine go_adv hX c_169 1 (F2 := (40, [], [(3, .int (x3 + ki 1)), (0, .ref x0), (1, .int x1), (2, .int x2)], h)) rfl ?_
        refine go_to hX 2 c_169 rfl rfl ?_
        refine go_ls [(0, .ref x0), (1, .int x1), (2, .int x2), (3, .int (x3 + ki 1))] ⟨rfl, ⟨rfl, ⟨rfl, ⟨rfl, trivial⟩⟩⟩⟩ ?_
        exact ih x0 x1 x2 (x3 + ki 1) _ hF hR hE
      · refine go_zf hX c_169 rfl (by decide) hc9 ?_
        refine go_adv hX c_169 4 (F2 := (25, [.int x1, .int x3, .ref x0, .ref x0], [(0, .ref x0), (1, .int x1), (2, .int x2), (3, .int x3)], h)) rfl ?_
        obtain ⟨_, e10, hF⟩ := mm_bind hF
        obtain ⟨v11, e12, hF⟩ := mm_bind hF
        refine go_cV hX (As := [.int x3, .int x1]) (rv := some (.int v11)) (h2 := h) (ci := 6) c_169 rfl (Nat.le_of_ble_eq_true rfl) rfl rfl e10 (by decide) (Nat.le_of_ble_eq_true rfl) (fun Q2 hQ2 => r_X6_across hX (d := d) e12 hQ2) ?_
        obtain ⟨_, e13, hF⟩ := mm_bind hF
        obtain ⟨v14, e15, hF⟩ := mm_bind hF
        refine go_cV hX (As := [.int v11]) (rv := some (.int v14)) (h2 := h) (ci := 6) c_169 rfl (Nat.le_of_ble_eq_true rfl) rfl rfl e13 (by decide) (Nat.le_of_ble_eq_true rfl) (fun Q2 hQ2 => r_X6_owner hX (d := (d + 1)) e15 hQ2) ?_
        refine go_adv hX c_169 1 (F2 := (32, [.int x2, .int v14], [(0, .ref x0), (1, .int x1), (2, .int x2), (3, .int x3)], h)) rfl ?_
        rcases mm_ite hF with ⟨hc16, hF⟩ | ⟨hc16, hF⟩
        · refine go_ct hX 37 c_169 rfl rfl hc16 ?_
          refine go_adv hX c_169 1 (F2 := (40, [], [(3, .int (x3 + ki 1)), (0, .ref x0), (1, .int x1), (2, .int x2)], h)) rfl ?_
          refine go_to hX 2 c_169 rfl rfl ?_
          refine go_ls [(0, .ref x0), (1, .int x1), (2, .int x2), (3, .int (x3 + ki 1))] ⟨rfl, ⟨rfl, ⟨rfl, ⟨rfl, trivial⟩⟩⟩⟩ ?_
          exact ih x0 x1 x2 (x3 + ki 1) _ hF hR hE
        · refine go_cf hX c_169 rfl (by decide) hc16 ?_
          refine go_adv hX c_169 1 (F2 := (36, [.int (ki 1)], [(0, .ref x0), (1, .int x1), (2, .int x2), (3, .int x3)], h)) rfl ?_
          cases hF
          have hQ := hR _ rfl
          exact go_iret hX c_169 rfl rfl (by decide) hQ
theorem r_X6_isJoined {X : mm_Cl} (hX : mm_mono X) {d c k : Nat} {Q : mm_Re → Prop} {h : mm_S} {x0 : Nat} {x1 : Int32} {x2 : Int32} {o : Int32} (hF : F_X6_isJoined h x0 x1 x2 = some o) (hQ : Q (.inl (some (.int o)), h)) : mm_Run X (d + 3) 169 c k [.ref x0, .int x1, .int x2] h Q := by
  unfold F_X6_isJoined at hF
  refine mm_Run_in (by decide) (by decide) (Nat.le_of_ble_eq_true rfl) ?_
  show mm_Ex (mm_Run X (d + 2)) 169 Q (0, [], [(0, .ref x0), (1, .int x1), (2, .int x2)], h) c k
  refine go_adv hX c_169 2 (F2 := (2, [], [(3, .int (ki 0)), (0, .ref x0), (1, .int x1), (2, .int x2)], h)) rfl ?_
  refine go_ls [(0, .ref x0), (1, .int x1), (2, .int x2), (3, .int (ki 0))] ⟨rfl, ⟨rfl, ⟨rfl, ⟨rfl, trivial⟩⟩⟩⟩ ?_
  obtain ⟨o17, e18, hF⟩ := mm_bind hF
  refine r_X6_isJoined_L2 hX 1000 x0 x1 x2 (ki 0) o17 e18 ?_ ?_
  · intro o17r hr
    subst hr
    dsimp only at hF
    cases hF
    exact hQ
  · intro o17e he
    subst he
    dsimp only at hF
    refine go_adv hX c_169 1 (F2 := (44, [.int (ki 0)], [], h)) rfl ?_
    cases hF
    exact go_iret hX c_169 rfl rfl (by decide) hQ
theorem c_170 : mm_cd 170 = k_X6_priceOf := rfl
def F_X6_priceOf (h : mm_S) (x0 : Nat) (x1 : Int32) : Option Int32 :=
  (fx_is h x0 6).bind fun _ =>
  (F_X6_owner h x0 x1).bind fun v2 =>
  if v2 ≠ (ki 2) then
    some (kb 10)
  else
    some (ki 5)
theorem r_X6_priceOf {X : mm_Cl} (hX : mm_mono X) {d c k : Nat} {Q : mm_Re → Prop} {h : mm_S} {x0 : Nat} {x1 : Int32} {o : Int32} (hF : F_X6_priceOf h x0 x1 = some o) (hQ : Q (.inl (some (.int o)), h)) : mm_Run X (d + 2) 170 c k [.ref x0, .int x1] h Q := by
  unfold F_X6_priceOf at hF
  refine mm_Run_in (by decide) (by decide) (Nat.le_of_ble_eq_true rfl) ?_
  show mm_Ex (mm_Run X (d + 1)) 170 Q (0, [], [(0, .ref x0), (1, .int x1)], h) c k
  refine go_adv hX c_170 2 (F2 := (2, [.int x1, .ref x0], [(0, .ref x0), (1, .int x1)], h)) rfl ?_
  obtain ⟨_, e1, hF⟩ := mm_bind hF
  obtain ⟨v2, e3, hF⟩ := mm_bind hF
  refine go_cV hX (As := [.int x1]) (rv := some (.int v2)) (h2 := h) (ci := 6) c_170 rfl (Nat.le_of_ble_eq_true rfl) rfl rfl e1 (by decide) (Nat.le_of_ble_eq_true rfl) (fun Q2 hQ2 => r_X6_owner hX (d := d) e3 hQ2) ?_
  refine go_adv hX c_170 1 (F2 := (6, [.int (ki 2), .int v2], [(0, .ref x0), (1, .int x1)], h)) rfl ?_
  rcases mm_ite hF with ⟨hc4, hF⟩ | ⟨hc4, hF⟩
  · refine go_ct hX 13 c_170 rfl rfl hc4 ?_
    refine go_adv hX c_170 1 (F2 := (15, [.int (kb 10)], [(0, .ref x0), (1, .int x1)], h)) rfl ?_
    cases hF
    exact go_iret hX c_170 rfl rfl rfl hQ
  · refine go_cf hX c_170 rfl (by decide) hc4 ?_
    refine go_adv hX c_170 1 (F2 := (10, [.int (ki 5)], [(0, .ref x0), (1, .int x1)], h)) rfl ?_
    refine go_to hX 15 c_170 rfl rfl ?_
    cases hF
    exact go_iret hX c_170 rfl rfl rfl hQ
theorem c_171 : mm_cd 171 = k_X6_isRefusedTake := rfl
def F_X6_isRefusedTake (h : mm_S) (x0 : Nat) (x1 : Int32) : Option (Int32 × mm_S) :=
  (fx_gR h x0 6 0).bind fun v1 =>
  (fx_aI h v1 (ki 3)).bind fun v3 =>
  (fx_is h x0 6).bind fun _ =>
  (F_X6_isNoLanding h x0 x1).bind fun v6 =>
  if v6.1 = 0 then
    (fx_is v6.2 x0 6).bind fun _ =>
    (F_X6_owner v6.2 x0 x1).bind fun v10 =>
    if v10 ≠ v3 then
      (fx_is v6.2 x0 6).bind fun _ =>
      (F_X6_standing v6.2 x0 x1).bind fun v14 =>
      if v14 < 0 then
        (fx_is v6.2 x0 6).bind fun _ =>
        (F_X6_isJoined v6.2 x0 x1 v3).bind fun v18 =>
        if v18 ≠ 0 then
          (fx_is v6.2 x0 6).bind fun _ =>
          (F_X6_gv v6.2 x0 v3 (ki 0)).bind fun v22 =>
          (fx_is v6.2 x0 6).bind fun _ =>
          (F_X6_priceOf v6.2 x0 x1).bind fun v25 =>
          if v25 ≤ v22 then
            some (ki 0, v6.2)
          else
            (fx_is v6.2 x0 6).bind fun _ =>
            (F_X6_gv v6.2 x0 v3 (ki 0)).bind fun v29 =>
            (fx_is v6.2 x0 6).bind fun _ =>
            (F_X6_isBad v6.2 x0 (kb 15) v29).bind fun v32 =>
            if v32.1 = 0 then
              some (ki 0, v32.2)
            else
              some (ki 1, v32.2)
        else
          (fx_is v6.2 x0 6).bind fun _ =>
          (F_X6_landingsOf v6.2 x0 v3).bind fun v36 =>
          (fx_is v6.2 x0 6).bind fun _ =>
          (F_X6_isBad v6.2 x0 (kb 14) v36).bind fun v39 =>
          (fx_nar .boolean v39.1).bind fun v41 =>
          some (v41, v39.2)
      else
        (fx_is v6.2 x0 6).bind fun _ =>
        (F_X6_standing v6.2 x0 x1).bind fun v44 =>
        (fx_is v6.2 x0 6).bind fun _ =>
        (F_X6_isBad v6.2 x0 (kb 12) v44).bind fun v47 =>
        (fx_nar .boolean v47.1).bind fun v49 =>
        some (v49, v47.2)
    else
      (fx_is v6.2 x0 6).bind fun _ =>
      (F_X6_isBad v6.2 x0 (kb 13) v3).bind fun v52 =>
      (fx_nar .boolean v52.1).bind fun v54 =>
      some (v54, v52.2)
  else
    some (ki 1, v6.2)
theorem r_X6_isRefusedTake {X : mm_Cl} (hX : mm_mono X) {d c k : Nat} {Q : mm_Re → Prop} {h : mm_S} {x0 : Nat} {x1 : Int32} {o : (Int32 × mm_S)} (hF : F_X6_isRefusedTake h x0 x1 = some o) (hQ : Q (.inl (some (.int o.1)), o.2)) : mm_Run X (d + 4) 171 c k [.ref x0, .int x1] h Q := by
  unfold F_X6_isRefusedTake at hF
  refine mm_Run_in (by decide) (by decide) (Nat.le_of_ble_eq_true rfl) ?_
  show mm_Ex (mm_Run X (d + 3)) 171 Q (0, [], [(0, .ref x0), (1, .int x1)], h) c k
  refine go_adv hX c_171 1 (F2 := (1, [.ref x0], [(0, .ref x0), (1, .int x1)], h)) rfl ?_
  obtain ⟨v1, e2, hF⟩ := mm_bind hF
  refine go_gR hX c_171 rfl e2 ?_
  refine go_adv hX c_171 1 (F2 := (5, [.int (ki 3), .ref v1], [(0, .ref x0), (1, .int x1)], h)) rfl ?_
  obtain ⟨v3, e4, hF⟩ := mm_bind hF
  refine go_aI hX c_171 rfl e4 ?_
  refine go_adv hX c_171 3 (F2 := (9, [.int x1, .ref x0], [(2, .int v3), (0, .ref x0), (1, .int x1)], h)) rfl ?_
  obtain ⟨_, e5, hF⟩ := mm_bind hF
  obtain ⟨v6, e7, hF⟩ := mm_bind hF
  refine go_cV hX (As := [.int x1]) (rv := some (.int v6.1)) (h2 := v6.2) (ci := 6) c_171 rfl (Nat.le_of_ble_eq_true rfl) rfl rfl e5 (by decide) (Nat.le_of_ble_eq_true rfl) (fun Q2 hQ2 => r_X6_isNoLanding hX (d := d) e7 hQ2) ?_
  rcases mm_ite hF with ⟨hc8, hF⟩ | ⟨hc8, hF⟩
  · refine go_zt hX 17 c_171 rfl rfl hc8 ?_
    refine go_adv hX c_171 2 (F2 := (19, [.int x1, .ref x0], [(2, .int v3), (0, .ref x0), (1, .int x1)], v6.2)) rfl ?_
    obtain ⟨_, e9, hF⟩ := mm_bind hF
    obtain ⟨v10, e11, hF⟩ := mm_bind hF
    refine go_cV hX (As := [.int x1]) (rv := some (.int v10)) (h2 := v6.2) (ci := 6) c_171 rfl (Nat.le_of_ble_eq_true rfl) rfl rfl e9 (by decide) (Nat.le_of_ble_eq_true rfl) (fun Q2 hQ2 => r_X6_owner hX (d := (d + 2)) e11 hQ2) ?_
    refine go_adv hX c_171 1 (F2 := (23, [.int v3, .int v10], [(2, .int v3), (0, .ref x0), (1, .int x1)], v6.2)) rfl ?_
    rcases mm_ite hF with ⟨hc12, hF⟩ | ⟨hc12, hF⟩
    · refine go_ct hX 34 c_171 rfl rfl hc12 ?_
      refine go_adv hX c_171 2 (F2 := (36, [.int x1, .ref x0], [(2, .int v3), (0, .ref x0), (1, .int x1)], v6.2)) rfl ?_
      obtain ⟨_, e13, hF⟩ := mm_bind hF
      obtain ⟨v14, e15, hF⟩ := mm_bind hF
      refine go_cV hX (As := [.int x1]) (rv := some (.int v14)) (h2 := v6.2) (ci := 6) c_171 rfl (Nat.le_of_ble_eq_true rfl) rfl rfl e13 (by decide) (Nat.le_of_ble_eq_true rfl) (fun Q2 hQ2 => r_X6_standing hX (d := (d + 1)) e15 hQ2) ?_
      rcases mm_ite hF with ⟨hc16, hF⟩ | ⟨hc16, hF⟩
      · refine go_zt hX 54 c_171 rfl rfl hc16 ?_
        refine go_adv hX c_171 3 (F2 := (57, [.int v3, .int x1, .ref x0], [(2, .int v3), (0, .ref x0), (1, .int x1)], v6.2)) rfl ?_
        obtain ⟨_, e17, hF⟩ := mm_bind hF
        obtain ⟨v18, e19, hF⟩ := mm_bind hF
        refine go_cV hX (As := [.int x1, .int v3]) (rv := some (.int v18)) (h2 := v6.2) (ci := 6) c_171 rfl (Nat.le_of_ble_eq_true rfl) rfl rfl e17 (by decide) (Nat.le_of_ble_eq_true rfl) (fun Q2 hQ2 => r_X6_isJoined hX (d := d) e19 hQ2) ?_
        rcases mm_ite hF with ⟨hc20, hF⟩ | ⟨hc20, hF⟩
        · refine go_zt hX 75 c_171 rfl rfl hc20 ?_
          refine go_adv hX c_171 3 (F2 := (78, [.int (ki 0), .int v3, .ref x0], [(2, .int v3), (0, .ref x0), (1, .int x1)], v6.2)) rfl ?_
          obtain ⟨_, e21, hF⟩ := mm_bind hF
          obtain ⟨v22, e23, hF⟩ := mm_bind hF
          refine go_cV hX (As := [.int v3, .int (ki 0)]) (rv := some (.int v22)) (h2 := v6.2) (ci := 6) c_171 rfl (Nat.le_of_ble_eq_true rfl) rfl rfl e21 (by decide) (Nat.le_of_ble_eq_true rfl) (fun Q2 hQ2 => r_X6_gv hX (d := (d + 2)) e23 hQ2) ?_
          refine go_adv hX c_171 2 (F2 := (83, [.int x1, .ref x0, .int v22], [(2, .int v3), (0, .ref x0), (1, .int x1)], v6.2)) rfl ?_
          obtain ⟨_, e24, hF⟩ := mm_bind hF
          obtain ⟨v25, e26, hF⟩ := mm_bind hF
          refine go_cV hX (As := [.int x1]) (rv := some (.int v25)) (h2 := v6.2) (ci := 6) c_171 rfl (Nat.le_of_ble_eq_true rfl) rfl rfl e24 (by decide) (Nat.le_of_ble_eq_true rfl) (fun Q2 hQ2 => r_X6_priceOf hX (d := (d + 1)) e26 hQ2) ?_
          rcases mm_ite hF with ⟨hc27, hF⟩ | ⟨hc27, hF⟩
          · refine go_ct hX 108 c_171 rfl rfl hc27 ?_
            refine go_adv hX c_171 1 (F2 := (109, [.int (ki 0)], [(2, .int v3), (0, .ref x0), (1, .int x1)], v6.2)) rfl ?_
            cases hF
            exact go_iret hX c_171 rfl rfl (by decide) hQ
          · refine go_cf hX c_171 rfl (by decide) hc27 ?_
            refine go_adv hX c_171 5 (F2 := (95, [.int (ki 0), .int v3, .ref x0, .int (kb 15), .ref x0], [(2, .int v3), (0, .ref x0), (1, .int x1)], v6.2)) rfl ?_
            obtain ⟨_, e28, hF⟩ := mm_bind hF
            obtain ⟨v29, e30, hF⟩ := mm_bind hF
            refine go_cV hX (As := [.int v3, .int (ki 0)]) (rv := some (.int v29)) (h2 := v6.2) (ci := 6) c_171 rfl (Nat.le_of_ble_eq_true rfl) rfl rfl e28 (by decide) (Nat.le_of_ble_eq_true rfl) (fun Q2 hQ2 => r_X6_gv hX (d := (d + 2)) e30 hQ2) ?_
            obtain ⟨_, e31, hF⟩ := mm_bind hF
            obtain ⟨v32, e33, hF⟩ := mm_bind hF
            refine go_cV hX (As := [.int (kb 15), .int v29]) (rv := some (.int v32.1)) (h2 := v32.2) (ci := 6) c_171 rfl (Nat.le_of_ble_eq_true rfl) rfl rfl e31 (by decide) (Nat.le_of_ble_eq_true rfl) (fun Q2 hQ2 => r_X6_isBad hX (d := (d + 2)) e33 hQ2) ?_
            rcases mm_ite hF with ⟨hc34, hF⟩ | ⟨hc34, hF⟩
            · refine go_zt hX 108 c_171 rfl rfl hc34 ?_
              refine go_adv hX c_171 1 (F2 := (109, [.int (ki 0)], [(2, .int v3), (0, .ref x0), (1, .int x1)], v32.2)) rfl ?_
              cases hF
              exact go_iret hX c_171 rfl rfl (by decide) hQ
            · refine go_zf hX c_171 rfl (by decide) hc34 ?_
              refine go_adv hX c_171 1 (F2 := (105, [.int (ki 1)], [(2, .int v3), (0, .ref x0), (1, .int x1)], v32.2)) rfl ?_
              refine go_to hX 109 c_171 rfl rfl ?_
              cases hF
              exact go_iret hX c_171 rfl rfl (by decide) hQ
        · refine go_zf hX c_171 rfl (by decide) hc20 ?_
          refine go_adv hX c_171 4 (F2 := (68, [.int v3, .ref x0, .int (kb 14), .ref x0], [(2, .int v3), (0, .ref x0), (1, .int x1)], v6.2)) rfl ?_
          obtain ⟨_, e35, hF⟩ := mm_bind hF
          obtain ⟨v36, e37, hF⟩ := mm_bind hF
          refine go_cV hX (As := [.int v3]) (rv := some (.int v36)) (h2 := v6.2) (ci := 6) c_171 rfl (Nat.le_of_ble_eq_true rfl) rfl rfl e35 (by decide) (Nat.le_of_ble_eq_true rfl) (fun Q2 hQ2 => r_X6_landingsOf hX (d := (d + 1)) e37 hQ2) ?_
          obtain ⟨_, e38, hF⟩ := mm_bind hF
          obtain ⟨v39, e40, hF⟩ := mm_bind hF
          refine go_cV hX (As := [.int (kb 14), .int v36]) (rv := some (.int v39.1)) (h2 := v39.2) (ci := 6) c_171 rfl (Nat.le_of_ble_eq_true rfl) rfl rfl e38 (by decide) (Nat.le_of_ble_eq_true rfl) (fun Q2 hQ2 => r_X6_isBad hX (d := (d + 2)) e40 hQ2) ?_
          obtain ⟨v41, e42, hF⟩ := mm_bind hF
          obtain ⟨rfl, e42n⟩ := fx_nar_s e42
          cases hF
          exact go_iret hX c_171 rfl rfl e42n hQ
      · refine go_zf hX c_171 rfl (by decide) hc16 ?_
        refine go_adv hX c_171 4 (F2 := (47, [.int x1, .ref x0, .int (kb 12), .ref x0], [(2, .int v3), (0, .ref x0), (1, .int x1)], v6.2)) rfl ?_
        obtain ⟨_, e43, hF⟩ := mm_bind hF
        obtain ⟨v44, e45, hF⟩ := mm_bind hF
        refine go_cV hX (As := [.int x1]) (rv := some (.int v44)) (h2 := v6.2) (ci := 6) c_171 rfl (Nat.le_of_ble_eq_true rfl) rfl rfl e43 (by decide) (Nat.le_of_ble_eq_true rfl) (fun Q2 hQ2 => r_X6_standing hX (d := (d + 1)) e45 hQ2) ?_
        obtain ⟨_, e46, hF⟩ := mm_bind hF
        obtain ⟨v47, e48, hF⟩ := mm_bind hF
        refine go_cV hX (As := [.int (kb 12), .int v44]) (rv := some (.int v47.1)) (h2 := v47.2) (ci := 6) c_171 rfl (Nat.le_of_ble_eq_true rfl) rfl rfl e46 (by decide) (Nat.le_of_ble_eq_true rfl) (fun Q2 hQ2 => r_X6_isBad hX (d := (d + 2)) e48 hQ2) ?_
        obtain ⟨v49, e50, hF⟩ := mm_bind hF
        obtain ⟨rfl, e50n⟩ := fx_nar_s e50
        cases hF
        exact go_iret hX c_171 rfl rfl e50n hQ
    · refine go_cf hX c_171 rfl (by decide) hc12 ?_
      refine go_adv hX c_171 3 (F2 := (30, [.int v3, .int (kb 13), .ref x0], [(2, .int v3), (0, .ref x0), (1, .int x1)], v6.2)) rfl ?_
      obtain ⟨_, e51, hF⟩ := mm_bind hF
      obtain ⟨v52, e53, hF⟩ := mm_bind hF
      refine go_cV hX (As := [.int (kb 13), .int v3]) (rv := some (.int v52.1)) (h2 := v52.2) (ci := 6) c_171 rfl (Nat.le_of_ble_eq_true rfl) rfl rfl e51 (by decide) (Nat.le_of_ble_eq_true rfl) (fun Q2 hQ2 => r_X6_isBad hX (d := (d + 2)) e53 hQ2) ?_
      obtain ⟨v54, e55, hF⟩ := mm_bind hF
      obtain ⟨rfl, e55n⟩ := fx_nar_s e55
      cases hF
      exact go_iret hX c_171 rfl rfl e55n hQ
  · refine go_zf hX c_171 rfl (by decide) hc8 ?_
    refine go_adv hX c_171 1 (F2 := (16, [.int (ki 1)], [(2, .int v3), (0, .ref x0), (1, .int x1)], v6.2)) rfl ?_
    cases hF
    exact go_iret hX c_171 rfl rfl (by decide) hQ
theorem c_172 : mm_cd 172 = k_X6_takes := rfl
def F_X6_takes (h : mm_S) (x0 : Nat) (x1 : Int32) : Option (Int32 × mm_S) :=
  (fx_gR h x0 6 0).bind fun v1 =>
  (fx_aI h v1 (ki 3)).bind fun v3 =>
  (fx_is h x0 6).bind fun _ =>
  (F_X6_priceOf h x0 x1).bind fun v6 =>
  (fx_is h x0 6).bind fun _ =>
  (F_X6_more h x0 v3 (ki 0) (-v6)).bind fun v9 =>
  (fx_gR v9 x0 6 0).bind fun v11 =>
  (fx_aI v9 v11 (ki 2)).bind fun v13 =>
  (fx_sI v9 v11 (ki 2) (v13 + (ki 5))).bind fun h15 =>
  (fx_is h15 x0 6).bind fun _ =>
  (F_X6_priceOf h15 x0 x1).bind fun v18 =>
  (fx_is h15 x0 6).bind fun _ =>
  (F_X6_more h15 x0 ((ki 1) - v3) (ki 0) (v18 - (ki 5))).bind fun v21 =>
  (fx_gR v21 x0 6 0).bind fun v23 =>
  (fx_sI v21 v23 ((kb 24) + x1) v3).bind fun h25 =>
  (fx_gR h25 x0 6 0).bind fun v27 =>
  (fx_aI h25 v27 (kb 8)).bind fun v29 =>
  (fx_sI h25 v27 (kb 8) (v29 + (ki 1))).bind fun h31 =>
  (fx_is h31 x0 6).bind fun _ =>
  (F_X6_gv h31 x0 v3 (ki 0)).bind fun v34 =>
  some (v34, h31)
theorem r_X6_takes {X : mm_Cl} (hX : mm_mono X) {d c k : Nat} {Q : mm_Re → Prop} {h : mm_S} {x0 : Nat} {x1 : Int32} {o : (Int32 × mm_S)} (hF : F_X6_takes h x0 x1 = some o) (hQ : Q (.inl (some (.int o.1)), o.2)) : mm_Run X (d + 3) 172 c k [.ref x0, .int x1] h Q := by
  unfold F_X6_takes at hF
  refine mm_Run_in (by decide) (by decide) (Nat.le_of_ble_eq_true rfl) ?_
  show mm_Ex (mm_Run X (d + 2)) 172 Q (0, [], [(0, .ref x0), (1, .int x1)], h) c k
  refine go_adv hX c_172 1 (F2 := (1, [.ref x0], [(0, .ref x0), (1, .int x1)], h)) rfl ?_
  obtain ⟨v1, e2, hF⟩ := mm_bind hF
  refine go_gR hX c_172 rfl e2 ?_
  refine go_adv hX c_172 1 (F2 := (5, [.int (ki 3), .ref v1], [(0, .ref x0), (1, .int x1)], h)) rfl ?_
  obtain ⟨v3, e4, hF⟩ := mm_bind hF
  refine go_aI hX c_172 rfl e4 ?_
  refine go_adv hX c_172 6 (F2 := (12, [.int x1, .ref x0, .int (ki 0), .int v3, .ref x0], [(2, .int v3), (0, .ref x0), (1, .int x1)], h)) rfl ?_
  obtain ⟨_, e5, hF⟩ := mm_bind hF
  obtain ⟨v6, e7, hF⟩ := mm_bind hF
  refine go_cV hX (As := [.int x1]) (rv := some (.int v6)) (h2 := h) (ci := 6) c_172 rfl (Nat.le_of_ble_eq_true rfl) rfl rfl e5 (by decide) (Nat.le_of_ble_eq_true rfl) (fun Q2 hQ2 => r_X6_priceOf hX (d := d) e7 hQ2) ?_
  refine go_adv hX c_172 1 (F2 := (16, [.int (-v6), .int (ki 0), .int v3, .ref x0], [(2, .int v3), (0, .ref x0), (1, .int x1)], h)) rfl ?_
  obtain ⟨_, e8, hF⟩ := mm_bind hF
  obtain ⟨v9, e10, hF⟩ := mm_bind hF
  refine go_cV hX (As := [.int v3, .int (ki 0), .int (-v6)]) (rv := none) (h2 := v9) (ci := 6) c_172 rfl (Nat.le_of_ble_eq_true rfl) rfl rfl e8 (by decide) (Nat.le_of_ble_eq_true rfl) (fun Q2 hQ2 => r_X6_more hX (d := (d + 1)) e10 hQ2) ?_
  refine go_adv hX c_172 1 (F2 := (20, [.ref x0], [(2, .int v3), (0, .ref x0), (1, .int x1)], v9)) rfl ?_
  obtain ⟨v11, e12, hF⟩ := mm_bind hF
  refine go_gR hX c_172 rfl e12 ?_
  refine go_adv hX c_172 1 (F2 := (24, [.int (ki 2), .ref v11], [(2, .int v3), (0, .ref x0), (1, .int x1)], v9)) rfl ?_
  refine go_p hX c_172 rfl rfl ⟨rfl, rfl⟩ ?_
  obtain ⟨v13, e14, hF⟩ := mm_bind hF
  refine go_aI hX c_172 rfl e14 ?_
  refine go_adv hX c_172 2 (F2 := (28, [.int (v13 + (ki 5)), .int (ki 2), .ref v11], [(2, .int v3), (0, .ref x0), (1, .int x1)], v9)) rfl ?_
  obtain ⟨h15, e16, hF⟩ := mm_bind hF
  refine go_sI hX c_172 rfl e16 ?_
  refine go_adv hX c_172 7 (F2 := (36, [.int x1, .ref x0, .int (ki 0), .int ((ki 1) - v3), .ref x0], [(2, .int v3), (0, .ref x0), (1, .int x1)], h15)) rfl ?_
  obtain ⟨_, e17, hF⟩ := mm_bind hF
  obtain ⟨v18, e19, hF⟩ := mm_bind hF
  refine go_cV hX (As := [.int x1]) (rv := some (.int v18)) (h2 := h15) (ci := 6) c_172 rfl (Nat.le_of_ble_eq_true rfl) rfl rfl e17 (by decide) (Nat.le_of_ble_eq_true rfl) (fun Q2 hQ2 => r_X6_priceOf hX (d := d) e19 hQ2) ?_
  refine go_adv hX c_172 2 (F2 := (41, [.int (v18 - (ki 5)), .int (ki 0), .int ((ki 1) - v3), .ref x0], [(2, .int v3), (0, .ref x0), (1, .int x1)], h15)) rfl ?_
  obtain ⟨_, e20, hF⟩ := mm_bind hF
  obtain ⟨v21, e22, hF⟩ := mm_bind hF
  refine go_cV hX (As := [.int ((ki 1) - v3), .int (ki 0), .int (v18 - (ki 5))]) (rv := none) (h2 := v21) (ci := 6) c_172 rfl (Nat.le_of_ble_eq_true rfl) rfl rfl e20 (by decide) (Nat.le_of_ble_eq_true rfl) (fun Q2 hQ2 => r_X6_more hX (d := (d + 1)) e22 hQ2) ?_
  refine go_adv hX c_172 1 (F2 := (45, [.ref x0], [(2, .int v3), (0, .ref x0), (1, .int x1)], v21)) rfl ?_
  obtain ⟨v23, e24, hF⟩ := mm_bind hF
  refine go_gR hX c_172 rfl e24 ?_
  refine go_adv hX c_172 4 (F2 := (53, [.int v3, .int ((kb 24) + x1), .ref v23], [(2, .int v3), (0, .ref x0), (1, .int x1)], v21)) rfl ?_
  obtain ⟨h25, e26, hF⟩ := mm_bind hF
  refine go_sI hX c_172 rfl e26 ?_
  refine go_adv hX c_172 1 (F2 := (55, [.ref x0], [(2, .int v3), (0, .ref x0), (1, .int x1)], h25)) rfl ?_
  obtain ⟨v27, e28, hF⟩ := mm_bind hF
  refine go_gR hX c_172 rfl e28 ?_
  refine go_adv hX c_172 1 (F2 := (60, [.int (kb 8), .ref v27], [(2, .int v3), (0, .ref x0), (1, .int x1)], h25)) rfl ?_
  refine go_p hX c_172 rfl rfl ⟨rfl, rfl⟩ ?_
  obtain ⟨v29, e30, hF⟩ := mm_bind hF
  refine go_aI hX c_172 rfl e30 ?_
  refine go_adv hX c_172 2 (F2 := (64, [.int (v29 + (ki 1)), .int (kb 8), .ref v27], [(2, .int v3), (0, .ref x0), (1, .int x1)], h25)) rfl ?_
  obtain ⟨h31, e32, hF⟩ := mm_bind hF
  refine go_sI hX c_172 rfl e32 ?_
  refine go_adv hX c_172 3 (F2 := (68, [.int (ki 0), .int v3, .ref x0], [(2, .int v3), (0, .ref x0), (1, .int x1)], h31)) rfl ?_
  obtain ⟨_, e33, hF⟩ := mm_bind hF
  obtain ⟨v34, e35, hF⟩ := mm_bind hF
  refine go_cV hX (As := [.int v3, .int (ki 0)]) (rv := some (.int v34)) (h2 := h31) (ci := 6) c_172 rfl (Nat.le_of_ble_eq_true rfl) rfl rfl e33 (by decide) (Nat.le_of_ble_eq_true rfl) (fun Q2 hQ2 => r_X6_gv hX (d := (d + 1)) e35 hQ2) ?_
  cases hF
  exact go_iret hX c_172 rfl rfl rfl hQ
theorem c_173 : mm_cd 173 = k_X6_take := rfl
def F_X6_take (h : mm_S) (x0 : Nat) (x1 : Int32) : Option (Int32 × mm_S) :=
  (fx_is h x0 6).bind fun _ =>
  (F_X6_begins h x0).bind fun v2 =>
  (fx_is v2 x0 6).bind fun _ =>
  (F_X6_isRefusedTake v2 x0 x1).bind fun v5 =>
  if v5.1 = 0 then
    (fx_is v5.2 x0 6).bind fun _ =>
    (F_X6_takes v5.2 x0 x1).bind fun v9 =>
    (fx_is v9.2 x0 6).bind fun _ =>
    (F_X6_keeps v9.2 x0 v9.1).bind fun v12 =>
    some (v12.1, v12.2)
  else
    (fx_is v5.2 x0 6).bind fun _ =>
    (F_X6_refused v5.2 x0).bind fun v15 =>
    some (v15.1, v15.2)
theorem r_X6_take {X : mm_Cl} (hX : mm_mono X) {d c k : Nat} {Q : mm_Re → Prop} {h : mm_S} {x0 : Nat} {x1 : Int32} {o : (Int32 × mm_S)} (hF : F_X6_take h x0 x1 = some o) (hQ : Q (.inl (some (.int o.1)), o.2)) : mm_Run X (d + 5) 173 c k [.ref x0, .int x1] h Q := by
  unfold F_X6_take at hF
  refine mm_Run_in (by decide) (by decide) (Nat.le_of_ble_eq_true rfl) ?_
  show mm_Ex (mm_Run X (d + 4)) 173 Q (0, [], [(0, .ref x0), (1, .int x1)], h) c k
  refine go_adv hX c_173 1 (F2 := (1, [.ref x0], [(0, .ref x0), (1, .int x1)], h)) rfl ?_
  obtain ⟨_, e1, hF⟩ := mm_bind hF
  obtain ⟨v2, e3, hF⟩ := mm_bind hF
  refine go_cV hX (As := []) (rv := none) (h2 := v2) (ci := 6) c_173 rfl (Nat.le_of_ble_eq_true rfl) rfl rfl e1 (by decide) (Nat.le_of_ble_eq_true rfl) (fun Q2 hQ2 => r_X6_begins hX (d := (d + 2)) e3 hQ2) ?_
  refine go_adv hX c_173 2 (F2 := (6, [.int x1, .ref x0], [(0, .ref x0), (1, .int x1)], v2)) rfl ?_
  obtain ⟨_, e4, hF⟩ := mm_bind hF
  obtain ⟨v5, e6, hF⟩ := mm_bind hF
  refine go_cV hX (As := [.int x1]) (rv := some (.int v5.1)) (h2 := v5.2) (ci := 6) c_173 rfl (Nat.le_of_ble_eq_true rfl) rfl rfl e4 (by decide) (Nat.le_of_ble_eq_true rfl) (fun Q2 hQ2 => r_X6_isRefusedTake hX (d := d) e6 hQ2) ?_
  rcases mm_ite hF with ⟨hc7, hF⟩ | ⟨hc7, hF⟩
  · refine go_zt hX 19 c_173 rfl rfl hc7 ?_
    refine go_adv hX c_173 3 (F2 := (22, [.int x1, .ref x0, .ref x0], [(0, .ref x0), (1, .int x1)], v5.2)) rfl ?_
    obtain ⟨_, e8, hF⟩ := mm_bind hF
    obtain ⟨v9, e10, hF⟩ := mm_bind hF
    refine go_cV hX (As := [.int x1]) (rv := some (.int v9.1)) (h2 := v9.2) (ci := 6) c_173 rfl (Nat.le_of_ble_eq_true rfl) rfl rfl e8 (by decide) (Nat.le_of_ble_eq_true rfl) (fun Q2 hQ2 => r_X6_takes hX (d := (d + 1)) e10 hQ2) ?_
    obtain ⟨_, e11, hF⟩ := mm_bind hF
    obtain ⟨v12, e13, hF⟩ := mm_bind hF
    refine go_cV hX (As := [.int v9.1]) (rv := some (.int v12.1)) (h2 := v12.2) (ci := 6) c_173 rfl (Nat.le_of_ble_eq_true rfl) rfl rfl e11 (by decide) (Nat.le_of_ble_eq_true rfl) (fun Q2 hQ2 => r_X6_keeps hX (d := (d + 2)) e13 hQ2) ?_
    cases hF
    exact go_iret hX c_173 rfl rfl rfl hQ
  · refine go_zf hX c_173 rfl (by decide) hc7 ?_
    refine go_adv hX c_173 1 (F2 := (13, [.ref x0], [(0, .ref x0), (1, .int x1)], v5.2)) rfl ?_
    obtain ⟨_, e14, hF⟩ := mm_bind hF
    obtain ⟨v15, e16, hF⟩ := mm_bind hF
    refine go_cV hX (As := []) (rv := some (.int v15.1)) (h2 := v15.2) (ci := 6) c_173 rfl (Nat.le_of_ble_eq_true rfl) rfl rfl e14 (by decide) (Nat.le_of_ble_eq_true rfl) (fun Q2 hQ2 => r_X6_refused hX (d := (d + 2)) e16 hQ2) ?_
    refine go_to hX 28 c_173 rfl rfl ?_
    cases hF
    exact go_iret hX c_173 rfl rfl rfl hQ
theorem c_174 : mm_cd 174 = k_X6_isRefusedCede := rfl
def F_X6_isRefusedCede (h : mm_S) (x0 : Nat) (x1 : Int32) (x2 : Int32) : Option (Int32 × mm_S) :=
  (fx_is h x0 6).bind fun _ =>
  (F_X6_isNoGiant h x0 x1).bind fun v2 =>
  if v2.1 ≠ 0 then
    some (ki 1, v2.2)
  else
    (fx_is v2.2 x0 6).bind fun _ =>
    (F_X6_isNoLanding v2.2 x0 x2).bind fun v6 =>
    if v6.1 = 0 then
      (fx_is v6.2 x0 6).bind fun _ =>
      (F_X6_owner v6.2 x0 x2).bind fun v10 =>
      if v10 = x1 then
        (fx_is v6.2 x0 6).bind fun _ =>
        (F_X6_standing v6.2 x0 x2).bind fun v14 =>
        if v14 < 0 then
          some (ki 0, v6.2)
        else
          (fx_is v6.2 x0 6).bind fun _ =>
          (F_X6_standing v6.2 x0 x2).bind fun v18 =>
          (fx_is v6.2 x0 6).bind fun _ =>
          (F_X6_isBad v6.2 x0 (kb 12) v18).bind fun v21 =>
          if v21.1 = 0 then
            some (ki 0, v21.2)
          else
            some (ki 1, v21.2)
      else
        (fx_is v6.2 x0 6).bind fun _ =>
        (F_X6_owner v6.2 x0 x2).bind fun v25 =>
        (fx_is v6.2 x0 6).bind fun _ =>
        (F_X6_isBad v6.2 x0 (kb 13) v25).bind fun v28 =>
        (fx_nar .boolean v28.1).bind fun v30 =>
        some (v30, v28.2)
    else
      some (ki 1, v6.2)
theorem r_X6_isRefusedCede {X : mm_Cl} (hX : mm_mono X) {d c k : Nat} {Q : mm_Re → Prop} {h : mm_S} {x0 : Nat} {x1 : Int32} {x2 : Int32} {o : (Int32 × mm_S)} (hF : F_X6_isRefusedCede h x0 x1 x2 = some o) (hQ : Q (.inl (some (.int o.1)), o.2)) : mm_Run X (d + 4) 174 c k [.ref x0, .int x1, .int x2] h Q := by
  unfold F_X6_isRefusedCede at hF
  refine mm_Run_in (by decide) (by decide) (Nat.le_of_ble_eq_true rfl) ?_
  show mm_Ex (mm_Run X (d + 3)) 174 Q (0, [], [(0, .ref x0), (1, .int x1), (2, .int x2)], h) c k
  refine go_adv hX c_174 2 (F2 := (2, [.int x1, .ref x0], [(0, .ref x0), (1, .int x1), (2, .int x2)], h)) rfl ?_
  obtain ⟨_, e1, hF⟩ := mm_bind hF
  obtain ⟨v2, e3, hF⟩ := mm_bind hF
  refine go_cV hX (As := [.int x1]) (rv := some (.int v2.1)) (h2 := v2.2) (ci := 6) c_174 rfl (Nat.le_of_ble_eq_true rfl) rfl rfl e1 (by decide) (Nat.le_of_ble_eq_true rfl) (fun Q2 hQ2 => r_X6_isNoGiant hX (d := d) e3 hQ2) ?_
  rcases mm_ite hF with ⟨hc4, hF⟩ | ⟨hc4, hF⟩
  · refine go_zt hX 16 c_174 rfl rfl hc4 ?_
    refine go_adv hX c_174 1 (F2 := (17, [.int (ki 1)], [(0, .ref x0), (1, .int x1), (2, .int x2)], v2.2)) rfl ?_
    cases hF
    exact go_iret hX c_174 rfl rfl (by decide) hQ
  · refine go_zf hX c_174 rfl (by decide) hc4 ?_
    refine go_adv hX c_174 2 (F2 := (10, [.int x2, .ref x0], [(0, .ref x0), (1, .int x1), (2, .int x2)], v2.2)) rfl ?_
    obtain ⟨_, e5, hF⟩ := mm_bind hF
    obtain ⟨v6, e7, hF⟩ := mm_bind hF
    refine go_cV hX (As := [.int x2]) (rv := some (.int v6.1)) (h2 := v6.2) (ci := 6) c_174 rfl (Nat.le_of_ble_eq_true rfl) rfl rfl e5 (by decide) (Nat.le_of_ble_eq_true rfl) (fun Q2 hQ2 => r_X6_isNoLanding hX (d := d) e7 hQ2) ?_
    rcases mm_ite hF with ⟨hc8, hF⟩ | ⟨hc8, hF⟩
    · refine go_zt hX 18 c_174 rfl rfl hc8 ?_
      refine go_adv hX c_174 2 (F2 := (20, [.int x2, .ref x0], [(0, .ref x0), (1, .int x1), (2, .int x2)], v6.2)) rfl ?_
      obtain ⟨_, e9, hF⟩ := mm_bind hF
      obtain ⟨v10, e11, hF⟩ := mm_bind hF
      refine go_cV hX (As := [.int x2]) (rv := some (.int v10)) (h2 := v6.2) (ci := 6) c_174 rfl (Nat.le_of_ble_eq_true rfl) rfl rfl e9 (by decide) (Nat.le_of_ble_eq_true rfl) (fun Q2 hQ2 => r_X6_owner hX (d := (d + 2)) e11 hQ2) ?_
      refine go_adv hX c_174 1 (F2 := (24, [.int x1, .int v10], [(0, .ref x0), (1, .int x1), (2, .int x2)], v6.2)) rfl ?_
      rcases mm_ite hF with ⟨hc12, hF⟩ | ⟨hc12, hF⟩
      · refine go_ct hX 39 c_174 rfl rfl hc12 ?_
        refine go_adv hX c_174 2 (F2 := (41, [.int x2, .ref x0], [(0, .ref x0), (1, .int x1), (2, .int x2)], v6.2)) rfl ?_
        obtain ⟨_, e13, hF⟩ := mm_bind hF
        obtain ⟨v14, e15, hF⟩ := mm_bind hF
        refine go_cV hX (As := [.int x2]) (rv := some (.int v14)) (h2 := v6.2) (ci := 6) c_174 rfl (Nat.le_of_ble_eq_true rfl) rfl rfl e13 (by decide) (Nat.le_of_ble_eq_true rfl) (fun Q2 hQ2 => r_X6_standing hX (d := (d + 1)) e15 hQ2) ?_
        rcases mm_ite hF with ⟨hc16, hF⟩ | ⟨hc16, hF⟩
        · refine go_zt hX 65 c_174 rfl rfl hc16 ?_
          refine go_adv hX c_174 1 (F2 := (66, [.int (ki 0)], [(0, .ref x0), (1, .int x1), (2, .int x2)], v6.2)) rfl ?_
          cases hF
          exact go_iret hX c_174 rfl rfl (by decide) hQ
        · refine go_zf hX c_174 rfl (by decide) hc16 ?_
          refine go_adv hX c_174 4 (F2 := (52, [.int x2, .ref x0, .int (kb 12), .ref x0], [(0, .ref x0), (1, .int x1), (2, .int x2)], v6.2)) rfl ?_
          obtain ⟨_, e17, hF⟩ := mm_bind hF
          obtain ⟨v18, e19, hF⟩ := mm_bind hF
          refine go_cV hX (As := [.int x2]) (rv := some (.int v18)) (h2 := v6.2) (ci := 6) c_174 rfl (Nat.le_of_ble_eq_true rfl) rfl rfl e17 (by decide) (Nat.le_of_ble_eq_true rfl) (fun Q2 hQ2 => r_X6_standing hX (d := (d + 1)) e19 hQ2) ?_
          obtain ⟨_, e20, hF⟩ := mm_bind hF
          obtain ⟨v21, e22, hF⟩ := mm_bind hF
          refine go_cV hX (As := [.int (kb 12), .int v18]) (rv := some (.int v21.1)) (h2 := v21.2) (ci := 6) c_174 rfl (Nat.le_of_ble_eq_true rfl) rfl rfl e20 (by decide) (Nat.le_of_ble_eq_true rfl) (fun Q2 hQ2 => r_X6_isBad hX (d := (d + 2)) e22 hQ2) ?_
          rcases mm_ite hF with ⟨hc23, hF⟩ | ⟨hc23, hF⟩
          · refine go_zt hX 65 c_174 rfl rfl hc23 ?_
            refine go_adv hX c_174 1 (F2 := (66, [.int (ki 0)], [(0, .ref x0), (1, .int x1), (2, .int x2)], v21.2)) rfl ?_
            cases hF
            exact go_iret hX c_174 rfl rfl (by decide) hQ
          · refine go_zf hX c_174 rfl (by decide) hc23 ?_
            refine go_adv hX c_174 1 (F2 := (62, [.int (ki 1)], [(0, .ref x0), (1, .int x1), (2, .int x2)], v21.2)) rfl ?_
            refine go_to hX 66 c_174 rfl rfl ?_
            cases hF
            exact go_iret hX c_174 rfl rfl (by decide) hQ
      · refine go_cf hX c_174 rfl (by decide) hc12 ?_
        refine go_adv hX c_174 4 (F2 := (32, [.int x2, .ref x0, .int (kb 13), .ref x0], [(0, .ref x0), (1, .int x1), (2, .int x2)], v6.2)) rfl ?_
        obtain ⟨_, e24, hF⟩ := mm_bind hF
        obtain ⟨v25, e26, hF⟩ := mm_bind hF
        refine go_cV hX (As := [.int x2]) (rv := some (.int v25)) (h2 := v6.2) (ci := 6) c_174 rfl (Nat.le_of_ble_eq_true rfl) rfl rfl e24 (by decide) (Nat.le_of_ble_eq_true rfl) (fun Q2 hQ2 => r_X6_owner hX (d := (d + 2)) e26 hQ2) ?_
        obtain ⟨_, e27, hF⟩ := mm_bind hF
        obtain ⟨v28, e29, hF⟩ := mm_bind hF
        refine go_cV hX (As := [.int (kb 13), .int v25]) (rv := some (.int v28.1)) (h2 := v28.2) (ci := 6) c_174 rfl (Nat.le_of_ble_eq_true rfl) rfl rfl e27 (by decide) (Nat.le_of_ble_eq_true rfl) (fun Q2 hQ2 => r_X6_isBad hX (d := (d + 2)) e29 hQ2) ?_
        obtain ⟨v30, e31, hF⟩ := mm_bind hF
        obtain ⟨rfl, e31n⟩ := fx_nar_s e31
        cases hF
        exact go_iret hX c_174 rfl rfl e31n hQ
    · refine go_zf hX c_174 rfl (by decide) hc8 ?_
      refine go_adv hX c_174 1 (F2 := (17, [.int (ki 1)], [(0, .ref x0), (1, .int x1), (2, .int x2)], v6.2)) rfl ?_
      cases hF
      exact go_iret hX c_174 rfl rfl (by decide) hQ
theorem c_175 : mm_cd 175 = k_X6_cedes := rfl
def F_X6_cedes (h : mm_S) (x0 : Nat) (x1 : Int32) (x2 : Int32) : Option (Int32 × mm_S) :=
  (fx_gR h x0 6 0).bind fun v1 =>
  (fx_sI h v1 ((kb 24) + x2) (ki 2)).bind fun h3 =>
  (fx_is h3 x0 6).bind fun _ =>
  (F_X6_landingsOf h3 x0 x1).bind fun v6 =>
  some (v6, h3)
theorem r_X6_cedes {X : mm_Cl} (hX : mm_mono X) {d c k : Nat} {Q : mm_Re → Prop} {h : mm_S} {x0 : Nat} {x1 : Int32} {x2 : Int32} {o : (Int32 × mm_S)} (hF : F_X6_cedes h x0 x1 x2 = some o) (hQ : Q (.inl (some (.int o.1)), o.2)) : mm_Run X (d + 3) 175 c k [.ref x0, .int x1, .int x2] h Q := by
  unfold F_X6_cedes at hF
  refine mm_Run_in (by decide) (by decide) (Nat.le_of_ble_eq_true rfl) ?_
  show mm_Ex (mm_Run X (d + 2)) 175 Q (0, [], [(0, .ref x0), (1, .int x1), (2, .int x2)], h) c k
  refine go_adv hX c_175 1 (F2 := (1, [.ref x0], [(0, .ref x0), (1, .int x1), (2, .int x2)], h)) rfl ?_
  obtain ⟨v1, e2, hF⟩ := mm_bind hF
  refine go_gR hX c_175 rfl e2 ?_
  refine go_adv hX c_175 4 (F2 := (9, [.int (ki 2), .int ((kb 24) + x2), .ref v1], [(0, .ref x0), (1, .int x1), (2, .int x2)], h)) rfl ?_
  obtain ⟨h3, e4, hF⟩ := mm_bind hF
  refine go_sI hX c_175 rfl e4 ?_
  refine go_adv hX c_175 2 (F2 := (12, [.int x1, .ref x0], [(0, .ref x0), (1, .int x1), (2, .int x2)], h3)) rfl ?_
  obtain ⟨_, e5, hF⟩ := mm_bind hF
  obtain ⟨v6, e7, hF⟩ := mm_bind hF
  refine go_cV hX (As := [.int x1]) (rv := some (.int v6)) (h2 := h3) (ci := 6) c_175 rfl (Nat.le_of_ble_eq_true rfl) rfl rfl e5 (by decide) (Nat.le_of_ble_eq_true rfl) (fun Q2 hQ2 => r_X6_landingsOf hX (d := d) e7 hQ2) ?_
  cases hF
  exact go_iret hX c_175 rfl rfl rfl hQ
theorem c_176 : mm_cd 176 = k_X6_free := rfl
def F_X6_free (h : mm_S) (x0 : Nat) (x1 : Int32) (x2 : Int32) : Option (Int32 × mm_S) :=
  (fx_is h x0 6).bind fun _ =>
  (F_X6_begins h x0).bind fun v2 =>
  (fx_is v2 x0 6).bind fun _ =>
  (F_X6_isRefusedCede v2 x0 x1 x2).bind fun v5 =>
  if v5.1 = 0 then
    (fx_is v5.2 x0 6).bind fun _ =>
    (F_X6_cedes v5.2 x0 x1 x2).bind fun v9 =>
    (fx_is v9.2 x0 6).bind fun _ =>
    (F_X6_keeps v9.2 x0 v9.1).bind fun v12 =>
    some (v12.1, v12.2)
  else
    (fx_is v5.2 x0 6).bind fun _ =>
    (F_X6_refused v5.2 x0).bind fun v15 =>
    some (v15.1, v15.2)
theorem r_X6_free {X : mm_Cl} (hX : mm_mono X) {d c k : Nat} {Q : mm_Re → Prop} {h : mm_S} {x0 : Nat} {x1 : Int32} {x2 : Int32} {o : (Int32 × mm_S)} (hF : F_X6_free h x0 x1 x2 = some o) (hQ : Q (.inl (some (.int o.1)), o.2)) : mm_Run X (d + 5) 176 c k [.ref x0, .int x1, .int x2] h Q := by
  unfold F_X6_free at hF
  refine mm_Run_in (by decide) (by decide) (Nat.le_of_ble_eq_true rfl) ?_
  show mm_Ex (mm_Run X (d + 4)) 176 Q (0, [], [(0, .ref x0), (1, .int x1), (2, .int x2)], h) c k
  refine go_adv hX c_176 1 (F2 := (1, [.ref x0], [(0, .ref x0), (1, .int x1), (2, .int x2)], h)) rfl ?_
  obtain ⟨_, e1, hF⟩ := mm_bind hF
  obtain ⟨v2, e3, hF⟩ := mm_bind hF
  refine go_cV hX (As := []) (rv := none) (h2 := v2) (ci := 6) c_176 rfl (Nat.le_of_ble_eq_true rfl) rfl rfl e1 (by decide) (Nat.le_of_ble_eq_true rfl) (fun Q2 hQ2 => r_X6_begins hX (d := (d + 2)) e3 hQ2) ?_
  refine go_adv hX c_176 3 (F2 := (7, [.int x2, .int x1, .ref x0], [(0, .ref x0), (1, .int x1), (2, .int x2)], v2)) rfl ?_
  obtain ⟨_, e4, hF⟩ := mm_bind hF
  obtain ⟨v5, e6, hF⟩ := mm_bind hF
  refine go_cV hX (As := [.int x1, .int x2]) (rv := some (.int v5.1)) (h2 := v5.2) (ci := 6) c_176 rfl (Nat.le_of_ble_eq_true rfl) rfl rfl e4 (by decide) (Nat.le_of_ble_eq_true rfl) (fun Q2 hQ2 => r_X6_isRefusedCede hX (d := d) e6 hQ2) ?_
  rcases mm_ite hF with ⟨hc7, hF⟩ | ⟨hc7, hF⟩
  · refine go_zt hX 20 c_176 rfl rfl hc7 ?_
    refine go_adv hX c_176 4 (F2 := (24, [.int x2, .int x1, .ref x0, .ref x0], [(0, .ref x0), (1, .int x1), (2, .int x2)], v5.2)) rfl ?_
    obtain ⟨_, e8, hF⟩ := mm_bind hF
    obtain ⟨v9, e10, hF⟩ := mm_bind hF
    refine go_cV hX (As := [.int x1, .int x2]) (rv := some (.int v9.1)) (h2 := v9.2) (ci := 6) c_176 rfl (Nat.le_of_ble_eq_true rfl) rfl rfl e8 (by decide) (Nat.le_of_ble_eq_true rfl) (fun Q2 hQ2 => r_X6_cedes hX (d := (d + 1)) e10 hQ2) ?_
    obtain ⟨_, e11, hF⟩ := mm_bind hF
    obtain ⟨v12, e13, hF⟩ := mm_bind hF
    refine go_cV hX (As := [.int v9.1]) (rv := some (.int v12.1)) (h2 := v12.2) (ci := 6) c_176 rfl (Nat.le_of_ble_eq_true rfl) rfl rfl e11 (by decide) (Nat.le_of_ble_eq_true rfl) (fun Q2 hQ2 => r_X6_keeps hX (d := (d + 2)) e13 hQ2) ?_
    cases hF
    exact go_iret hX c_176 rfl rfl rfl hQ
  · refine go_zf hX c_176 rfl (by decide) hc7 ?_
    refine go_adv hX c_176 1 (F2 := (14, [.ref x0], [(0, .ref x0), (1, .int x1), (2, .int x2)], v5.2)) rfl ?_
    obtain ⟨_, e14, hF⟩ := mm_bind hF
    obtain ⟨v15, e16, hF⟩ := mm_bind hF
    refine go_cV hX (As := []) (rv := some (.int v15.1)) (h2 := v15.2) (ci := 6) c_176 rfl (Nat.le_of_ble_eq_true rfl) rfl rfl e14 (by decide) (Nat.le_of_ble_eq_true rfl) (fun Q2 hQ2 => r_X6_refused hX (d := (d + 2)) e16 hQ2) ?_
    refine go_to hX 30 c_176 rfl rfl ?_
    cases hF
    exact go_iret hX c_176 rfl rfl rfl hQ
theorem c_177 : mm_cd 177 = k_X6_ends := rfl
def F_X6_ends (h : mm_S) (x0 : Nat) (x1 : Int32) : Option mm_S :=
  (fx_is h x0 6).bind fun _ =>
  (F_X6_ls h x0 x1 (ki 5) (ki (-1))).bind fun v2 =>
  (fx_is v2 x0 6).bind fun _ =>
  (F_X6_ls v2 x0 x1 (kb 6) (ki 0)).bind fun v5 =>
  some v5
theorem r_X6_ends {X : mm_Cl} (hX : mm_mono X) {d c k : Nat} {Q : mm_Re → Prop} {h : mm_S} {x0 : Nat} {x1 : Int32} {o : mm_S} (hF : F_X6_ends h x0 x1 = some o) (hQ : Q (.inl none, o)) : mm_Run X (d + 2) 177 c k [.ref x0, .int x1] h Q := by
  unfold F_X6_ends at hF
  refine mm_Run_in (by decide) (by decide) (Nat.le_of_ble_eq_true rfl) ?_
  show mm_Ex (mm_Run X (d + 1)) 177 Q (0, [], [(0, .ref x0), (1, .int x1)], h) c k
  refine go_adv hX c_177 4 (F2 := (4, [.int (ki (-1)), .int (ki 5), .int x1, .ref x0], [(0, .ref x0), (1, .int x1)], h)) rfl ?_
  obtain ⟨_, e1, hF⟩ := mm_bind hF
  obtain ⟨v2, e3, hF⟩ := mm_bind hF
  refine go_cV hX (As := [.int x1, .int (ki 5), .int (ki (-1))]) (rv := none) (h2 := v2) (ci := 6) c_177 rfl (Nat.le_of_ble_eq_true rfl) rfl rfl e1 (by decide) (Nat.le_of_ble_eq_true rfl) (fun Q2 hQ2 => r_X6_ls hX (d := d) e3 hQ2) ?_
  refine go_adv hX c_177 4 (F2 := (12, [.int (ki 0), .int (kb 6), .int x1, .ref x0], [(0, .ref x0), (1, .int x1)], v2)) rfl ?_
  obtain ⟨_, e4, hF⟩ := mm_bind hF
  obtain ⟨v5, e6, hF⟩ := mm_bind hF
  refine go_cV hX (As := [.int x1, .int (kb 6), .int (ki 0)]) (rv := none) (h2 := v5) (ci := 6) c_177 rfl (Nat.le_of_ble_eq_true rfl) rfl rfl e4 (by decide) (Nat.le_of_ble_eq_true rfl) (fun Q2 hQ2 => r_X6_ls hX (d := d) e6 hQ2) ?_
  cases hF
  exact go_ret hX c_177 rfl rfl hQ
theorem c_178 : mm_cd 178 = k_X6_givesRent := rfl
def F_X6_givesRent (h : mm_S) (x0 : Nat) (x1 : Int32) : Option (Int32 × mm_S) :=
  (fx_is h x0 6).bind fun _ =>
  (F_X6_sv h x0 x1 (ki 5)).bind fun v2 =>
  if 0 ≤ v2 then
    (fx_is h x0 6).bind fun _ =>
    (F_X6_rentOf h x0 x1).bind fun v6 =>
    (fx_is h x0 6).bind fun _ =>
    (F_X6_gv h x0 v2 (ki 0)).bind fun v9 =>
    if v6 ≤ v9 then
      (fx_is h x0 6).bind fun _ =>
      (F_X6_more h x0 v2 (ki 0) (-v6)).bind fun v13 =>
      (fx_is v13 x0 6).bind fun _ =>
      (F_X6_more v13 x0 v2 (ki 3) v6).bind fun v16 =>
      (fx_gR v16 x0 6 0).bind fun v18 =>
      (fx_aI v16 v18 (ki 2)).bind fun v20 =>
      (fx_sI v16 v18 (ki 2) (v20 + v6)).bind fun h22 =>
      (fx_gR h22 x0 6 0).bind fun v24 =>
      (fx_aI h22 v24 (ki 4)).bind fun v26 =>
      (fx_sI h22 v24 (ki 4) (v26 + v6)).bind fun h28 =>
      (fx_is h28 x0 6).bind fun _ =>
      (F_X6_sv h28 x0 x1 (kb 6)).bind fun v31 =>
      (fx_is h28 x0 6).bind fun _ =>
      (F_X6_ls h28 x0 x1 (kb 6) (v31 - (ki 1))).bind fun v34 =>
      (fx_is v34 x0 6).bind fun _ =>
      (F_X6_sv v34 x0 x1 (kb 6)).bind fun v37 =>
      if v37 ≠ 0 then
        some (v6, v34)
      else
        (fx_is v34 x0 6).bind fun _ =>
        (F_X6_ends v34 x0 x1).bind fun v41 =>
        some (v6, v41)
    else
      (fx_is h x0 6).bind fun _ =>
      (F_X6_ends h x0 x1).bind fun v44 =>
      some (ki 0, v44)
  else
    some (ki 0, h)
theorem r_X6_givesRent {X : mm_Cl} (hX : mm_mono X) {d c k : Nat} {Q : mm_Re → Prop} {h : mm_S} {x0 : Nat} {x1 : Int32} {o : (Int32 × mm_S)} (hF : F_X6_givesRent h x0 x1 = some o) (hQ : Q (.inl (some (.int o.1)), o.2)) : mm_Run X (d + 3) 178 c k [.ref x0, .int x1] h Q := by
  unfold F_X6_givesRent at hF
  refine mm_Run_in (by decide) (by decide) (Nat.le_of_ble_eq_true rfl) ?_
  show mm_Ex (mm_Run X (d + 2)) 178 Q (0, [], [(0, .ref x0), (1, .int x1)], h) c k
  refine go_adv hX c_178 3 (F2 := (3, [.int (ki 5), .int x1, .ref x0], [(0, .ref x0), (1, .int x1)], h)) rfl ?_
  obtain ⟨_, e1, hF⟩ := mm_bind hF
  obtain ⟨v2, e3, hF⟩ := mm_bind hF
  refine go_cV hX (As := [.int x1, .int (ki 5)]) (rv := some (.int v2)) (h2 := h) (ci := 6) c_178 rfl (Nat.le_of_ble_eq_true rfl) rfl rfl e1 (by decide) (Nat.le_of_ble_eq_true rfl) (fun Q2 hQ2 => r_X6_sv hX (d := (d + 1)) e3 hQ2) ?_
  refine go_adv hX c_178 2 (F2 := (8, [.int v2], [(2, .int v2), (0, .ref x0), (1, .int x1)], h)) rfl ?_
  rcases mm_ite hF with ⟨hc4, hF⟩ | ⟨hc4, hF⟩
  · refine go_zt hX 13 c_178 rfl rfl hc4 ?_
    refine go_adv hX c_178 2 (F2 := (15, [.int x1, .ref x0], [(2, .int v2), (0, .ref x0), (1, .int x1)], h)) rfl ?_
    obtain ⟨_, e5, hF⟩ := mm_bind hF
    obtain ⟨v6, e7, hF⟩ := mm_bind hF
    refine go_cV hX (As := [.int x1]) (rv := some (.int v6)) (h2 := h) (ci := 6) c_178 rfl (Nat.le_of_ble_eq_true rfl) rfl rfl e5 (by decide) (Nat.le_of_ble_eq_true rfl) (fun Q2 hQ2 => r_X6_rentOf hX (d := d) e7 hQ2) ?_
    refine go_adv hX c_178 4 (F2 := (22, [.int (ki 0), .int v2, .ref x0], [(3, .int v6), (2, .int v2), (0, .ref x0), (1, .int x1)], h)) rfl ?_
    obtain ⟨_, e8, hF⟩ := mm_bind hF
    obtain ⟨v9, e10, hF⟩ := mm_bind hF
    refine go_cV hX (As := [.int v2, .int (ki 0)]) (rv := some (.int v9)) (h2 := h) (ci := 6) c_178 rfl (Nat.le_of_ble_eq_true rfl) rfl rfl e8 (by decide) (Nat.le_of_ble_eq_true rfl) (fun Q2 hQ2 => r_X6_gv hX (d := (d + 1)) e10 hQ2) ?_
    refine go_adv hX c_178 1 (F2 := (26, [.int v6, .int v9], [(3, .int v6), (2, .int v2), (0, .ref x0), (1, .int x1)], h)) rfl ?_
    rcases mm_ite hF with ⟨hc11, hF⟩ | ⟨hc11, hF⟩
    · refine go_ct hX 36 c_178 rfl rfl hc11 ?_
      refine go_adv hX c_178 5 (F2 := (41, [.int (-v6), .int (ki 0), .int v2, .ref x0], [(3, .int v6), (2, .int v2), (0, .ref x0), (1, .int x1)], h)) rfl ?_
      obtain ⟨_, e12, hF⟩ := mm_bind hF
      obtain ⟨v13, e14, hF⟩ := mm_bind hF
      refine go_cV hX (As := [.int v2, .int (ki 0), .int (-v6)]) (rv := none) (h2 := v13) (ci := 6) c_178 rfl (Nat.le_of_ble_eq_true rfl) rfl rfl e12 (by decide) (Nat.le_of_ble_eq_true rfl) (fun Q2 hQ2 => r_X6_more hX (d := (d + 1)) e14 hQ2) ?_
      refine go_adv hX c_178 4 (F2 := (48, [.int v6, .int (ki 3), .int v2, .ref x0], [(3, .int v6), (2, .int v2), (0, .ref x0), (1, .int x1)], v13)) rfl ?_
      obtain ⟨_, e15, hF⟩ := mm_bind hF
      obtain ⟨v16, e17, hF⟩ := mm_bind hF
      refine go_cV hX (As := [.int v2, .int (ki 3), .int v6]) (rv := none) (h2 := v16) (ci := 6) c_178 rfl (Nat.le_of_ble_eq_true rfl) rfl rfl e15 (by decide) (Nat.le_of_ble_eq_true rfl) (fun Q2 hQ2 => r_X6_more hX (d := (d + 1)) e17 hQ2) ?_
      refine go_adv hX c_178 1 (F2 := (52, [.ref x0], [(3, .int v6), (2, .int v2), (0, .ref x0), (1, .int x1)], v16)) rfl ?_
      obtain ⟨v18, e19, hF⟩ := mm_bind hF
      refine go_gR hX c_178 rfl e19 ?_
      refine go_adv hX c_178 1 (F2 := (56, [.int (ki 2), .ref v18], [(3, .int v6), (2, .int v2), (0, .ref x0), (1, .int x1)], v16)) rfl ?_
      refine go_p hX c_178 rfl rfl ⟨rfl, rfl⟩ ?_
      obtain ⟨v20, e21, hF⟩ := mm_bind hF
      refine go_aI hX c_178 rfl e21 ?_
      refine go_adv hX c_178 2 (F2 := (60, [.int (v20 + v6), .int (ki 2), .ref v18], [(3, .int v6), (2, .int v2), (0, .ref x0), (1, .int x1)], v16)) rfl ?_
      obtain ⟨h22, e23, hF⟩ := mm_bind hF
      refine go_sI hX c_178 rfl e23 ?_
      refine go_adv hX c_178 1 (F2 := (62, [.ref x0], [(3, .int v6), (2, .int v2), (0, .ref x0), (1, .int x1)], h22)) rfl ?_
      obtain ⟨v24, e25, hF⟩ := mm_bind hF
      refine go_gR hX c_178 rfl e25 ?_
      refine go_adv hX c_178 1 (F2 := (66, [.int (ki 4), .ref v24], [(3, .int v6), (2, .int v2), (0, .ref x0), (1, .int x1)], h22)) rfl ?_
      refine go_p hX c_178 rfl rfl ⟨rfl, rfl⟩ ?_
      obtain ⟨v26, e27, hF⟩ := mm_bind hF
      refine go_aI hX c_178 rfl e27 ?_
      refine go_adv hX c_178 2 (F2 := (70, [.int (v26 + v6), .int (ki 4), .ref v24], [(3, .int v6), (2, .int v2), (0, .ref x0), (1, .int x1)], h22)) rfl ?_
      obtain ⟨h28, e29, hF⟩ := mm_bind hF
      refine go_sI hX c_178 rfl e29 ?_
      refine go_adv hX c_178 6 (F2 := (79, [.int (kb 6), .int x1, .ref x0, .int (kb 6), .int x1, .ref x0], [(3, .int v6), (2, .int v2), (0, .ref x0), (1, .int x1)], h28)) rfl ?_
      obtain ⟨_, e30, hF⟩ := mm_bind hF
      obtain ⟨v31, e32, hF⟩ := mm_bind hF
      refine go_cV hX (As := [.int x1, .int (kb 6)]) (rv := some (.int v31)) (h2 := h28) (ci := 6) c_178 rfl (Nat.le_of_ble_eq_true rfl) rfl rfl e30 (by decide) (Nat.le_of_ble_eq_true rfl) (fun Q2 hQ2 => r_X6_sv hX (d := (d + 1)) e32 hQ2) ?_
      refine go_adv hX c_178 2 (F2 := (84, [.int (v31 - (ki 1)), .int (kb 6), .int x1, .ref x0], [(3, .int v6), (2, .int v2), (0, .ref x0), (1, .int x1)], h28)) rfl ?_
      obtain ⟨_, e33, hF⟩ := mm_bind hF
      obtain ⟨v34, e35, hF⟩ := mm_bind hF
      refine go_cV hX (As := [.int x1, .int (kb 6), .int (v31 - (ki 1))]) (rv := none) (h2 := v34) (ci := 6) c_178 rfl (Nat.le_of_ble_eq_true rfl) rfl rfl e33 (by decide) (Nat.le_of_ble_eq_true rfl) (fun Q2 hQ2 => r_X6_ls hX (d := (d + 1)) e35 hQ2) ?_
      refine go_adv hX c_178 3 (F2 := (91, [.int (kb 6), .int x1, .ref x0], [(3, .int v6), (2, .int v2), (0, .ref x0), (1, .int x1)], v34)) rfl ?_
      obtain ⟨_, e36, hF⟩ := mm_bind hF
      obtain ⟨v37, e38, hF⟩ := mm_bind hF
      refine go_cV hX (As := [.int x1, .int (kb 6)]) (rv := some (.int v37)) (h2 := v34) (ci := 6) c_178 rfl (Nat.le_of_ble_eq_true rfl) rfl rfl e36 (by decide) (Nat.le_of_ble_eq_true rfl) (fun Q2 hQ2 => r_X6_sv hX (d := (d + 1)) e38 hQ2) ?_
      rcases mm_ite hF with ⟨hc39, hF⟩ | ⟨hc39, hF⟩
      · refine go_zt hX 102 c_178 rfl rfl hc39 ?_
        refine go_adv hX c_178 1 (F2 := (103, [.int v6], [(3, .int v6), (2, .int v2), (0, .ref x0), (1, .int x1)], v34)) rfl ?_
        cases hF
        exact go_iret hX c_178 rfl rfl rfl hQ
      · refine go_zf hX c_178 rfl (by decide) hc39 ?_
        refine go_adv hX c_178 2 (F2 := (99, [.int x1, .ref x0], [(3, .int v6), (2, .int v2), (0, .ref x0), (1, .int x1)], v34)) rfl ?_
        obtain ⟨_, e40, hF⟩ := mm_bind hF
        obtain ⟨v41, e42, hF⟩ := mm_bind hF
        refine go_cV hX (As := [.int x1]) (rv := none) (h2 := v41) (ci := 6) c_178 rfl (Nat.le_of_ble_eq_true rfl) rfl rfl e40 (by decide) (Nat.le_of_ble_eq_true rfl) (fun Q2 hQ2 => r_X6_ends hX (d := d) e42 hQ2) ?_
        refine go_adv hX c_178 1 (F2 := (103, [.int v6], [(3, .int v6), (2, .int v2), (0, .ref x0), (1, .int x1)], v41)) rfl ?_
        cases hF
        exact go_iret hX c_178 rfl rfl rfl hQ
    · refine go_cf hX c_178 rfl (by decide) hc11 ?_
      refine go_adv hX c_178 2 (F2 := (31, [.int x1, .ref x0], [(3, .int v6), (2, .int v2), (0, .ref x0), (1, .int x1)], h)) rfl ?_
      obtain ⟨_, e43, hF⟩ := mm_bind hF
      obtain ⟨v44, e45, hF⟩ := mm_bind hF
      refine go_cV hX (As := [.int x1]) (rv := none) (h2 := v44) (ci := 6) c_178 rfl (Nat.le_of_ble_eq_true rfl) rfl rfl e43 (by decide) (Nat.le_of_ble_eq_true rfl) (fun Q2 hQ2 => r_X6_ends hX (d := d) e45 hQ2) ?_
      refine go_adv hX c_178 1 (F2 := (35, [.int (ki 0)], [(3, .int v6), (2, .int v2), (0, .ref x0), (1, .int x1)], v44)) rfl ?_
      cases hF
      exact go_iret hX c_178 rfl rfl rfl hQ
  · refine go_zf hX c_178 rfl (by decide) hc4 ?_
    refine go_adv hX c_178 1 (F2 := (12, [.int (ki 0)], [(2, .int v2), (0, .ref x0), (1, .int x1)], h)) rfl ?_
    cases hF
    exact go_iret hX c_178 rfl rfl rfl hQ
theorem c_179 : mm_cd 179 = k_X6_least := rfl
def F_X6_least (h : mm_S) (x0 : Int32) (x1 : Int32) : Option Int32 :=
  if x1 ≤ x0 then
    some x1
  else
    some x0
theorem r_X6_least {X : mm_Cl} (hX : mm_mono X) {d c k : Nat} {Q : mm_Re → Prop} {h : mm_S} {x0 : Int32} {x1 : Int32} {o : Int32} (hF : F_X6_least h x0 x1 = some o) (hQ : Q (.inl (some (.int o)), h)) : mm_Run X (d + 1) 179 c k [.int x0, .int x1] h Q := by
  unfold F_X6_least at hF
  refine mm_Run_in (by decide) (by decide) (Nat.le_of_ble_eq_true rfl) ?_
  show mm_Ex (mm_Run X d) 179 Q (0, [], [(0, .int x0), (1, .int x1)], h) c k
  refine go_adv hX c_179 2 (F2 := (2, [.int x1, .int x0], [(0, .int x0), (1, .int x1)], h)) rfl ?_
  rcases mm_ite hF with ⟨hc1, hF⟩ | ⟨hc1, hF⟩
  · refine go_ct hX 9 c_179 rfl rfl hc1 ?_
    refine go_adv hX c_179 1 (F2 := (10, [.int x1], [(0, .int x0), (1, .int x1)], h)) rfl ?_
    cases hF
    exact go_iret hX c_179 rfl rfl rfl hQ
  · refine go_cf hX c_179 rfl (by decide) hc1 ?_
    refine go_adv hX c_179 1 (F2 := (6, [.int x0], [(0, .int x0), (1, .int x1)], h)) rfl ?_
    refine go_to hX 10 c_179 rfl rfl ?_
    cases hF
    exact go_iret hX c_179 rfl rfl rfl hQ
theorem c_180 : mm_cd 180 = k_X6_goesBy := rfl
def F_X6_goesBy_L4 : Nat → Nat → Int32 → Int32 → mm_S → Option (Int32 × mm_S)
  | 0, _, _, _, _ => none
  | n + 1, x0, x1, x2, h =>
    (fx_gR h x0 6 0).bind fun v1 =>
    (fx_aI h v1 (ki 0)).bind fun v3 =>
    if v3 ≤ x2 then
      some ((x1, h))
    else
      (fx_is h x0 6).bind fun _ =>
      (F_X6_sv h x0 x2 (ki 3)).bind fun v7 =>
      (fx_is h x0 6).bind fun _ =>
      (F_X6_sv h x0 x2 (ki 2)).bind fun v10 =>
      (fx_div v10 (ki 5)).bind fun v12 =>
      (F_X6_least h (kb 20) ((v7 + v12) + (ki 1))).bind fun v14 =>
      (fx_is h x0 6).bind fun _ =>
      (F_X6_ls h x0 x2 (ki 3) v14).bind fun v17 =>
      (fx_is v17 x0 6).bind fun _ =>
      (F_X6_givesRent v17 x0 x2).bind fun v20 =>
      F_X6_goesBy_L4 n x0 (x1 + v20.1) (x2 + ki 1) v20.2
def F_X6_goesBy (h : mm_S) (x0 : Nat) : Option (Int32 × mm_S) :=
  (F_X6_goesBy_L4 1000 x0 (ki 0) (ki 0) h).bind fun o22 =>
  (fx_gR o22.2 x0 6 0).bind fun v24 =>
  (fx_aI o22.2 v24 (ki 1)).bind fun v26 =>
  (fx_sI o22.2 v24 (ki 1) (v26 + (ki 1))).bind fun h28 =>
  (fx_gR h28 x0 6 0).bind fun v30 =>
  (fx_gR h28 x0 6 0).bind fun v32 =>
  (fx_aI h28 v32 (ki 3)).bind fun v34 =>
  (fx_sI h28 v30 (ki 3) ((ki 1) - v34)).bind fun h36 =>
  some (o22.1, h36)
theorem r_X6_goesBy_L4 {X : mm_Cl} (hX : mm_mono X) {d c k : Nat} {Q : mm_Re → Prop} : ∀ (n : Nat) (x0 : Nat) (x1 : Int32) (x2 : Int32) (h : mm_S) (o : (Int32 × mm_S)), F_X6_goesBy_L4 n x0 x1 x2 h = some o → (mm_Ex (mm_Run X (d + 3)) 180 Q (56, [], [(0, .ref x0), (1, .int o.1)], o.2) c k) → mm_Ex (mm_Run X (d + 3)) 180 Q (4, [], [(0, .ref x0), (1, .int x1), (2, .int x2)], h) c k := by
  intro n
  induction n with
  | zero => intro x0 x1 x2 h o hF; cases hF
  | succ n ih =>
    intro x0 x1 x2 h o hF hE
    unfold F_X6_goesBy_L4 at hF
    refine go_adv hX c_180 2 (F2 := (6, [.ref x0, .int x2], [(0, .ref x0), (1, .int x1), (2, .int x2)], h)) rfl ?_
    obtain ⟨v1, e2, hF⟩ := mm_bind hF
    refine go_gR hX c_180 rfl e2 ?_
    refine go_adv hX c_180 1 (F2 := (10, [.int (ki 0), .ref v1, .int x2], [(0, .ref x0), (1, .int x1), (2, .int x2)], h)) rfl ?_
    obtain ⟨v3, e4, hF⟩ := mm_bind hF
    refine go_aI hX c_180 rfl e4 ?_
    rcases mm_ite hF with ⟨hc5, hF⟩ | ⟨hc5, hF⟩
    · refine go_ct hX 56 c_180 rfl rfl hc5 ?_
      cases hF
      refine go_ls [(0, .ref x0), (1, .int x1)] ⟨rfl, ⟨rfl, trivial⟩⟩ ?_
      exact hE
    · refine go_cf hX c_180 rfl (by decide) hc5 ?_
      refine go_adv hX c_180 7 (F2 := (22, [.int (ki 3), .int x2, .ref x0, .int (kb 20), .int (ki 3), .int x2, .ref x0], [(0, .ref x0), (1, .int x1), (2, .int x2)], h)) rfl ?_
      obtain ⟨_, e6, hF⟩ := mm_bind hF
      obtain ⟨v7, e8, hF⟩ := mm_bind hF
      refine go_cV hX (As := [.int x2, .int (ki 3)]) (rv := some (.int v7)) (h2 := h) (ci := 6) c_180 rfl (Nat.le_of_ble_eq_true rfl) rfl rfl e6 (by decide) (Nat.le_of_ble_eq_true rfl) (fun Q2 hQ2 => r_X6_sv hX (d := (d + 2)) e8 hQ2) ?_
      refine go_adv hX c_180 3 (F2 := (28, [.int (ki 2), .int x2, .ref x0, .int v7, .int (kb 20), .int (ki 3), .int x2, .ref x0], [(0, .ref x0), (1, .int x1), (2, .int x2)], h)) rfl ?_
      obtain ⟨_, e9, hF⟩ := mm_bind hF
      obtain ⟨v10, e11, hF⟩ := mm_bind hF
      refine go_cV hX (As := [.int x2, .int (ki 2)]) (rv := some (.int v10)) (h2 := h) (ci := 6) c_180 rfl (Nat.le_of_ble_eq_true rfl) rfl rfl e9 (by decide) (Nat.le_of_ble_eq_true rfl) (fun Q2 hQ2 => r_X6_sv hX (d := (d + 2)) e11 hQ2) ?_
      refine go_adv hX c_180 1 (F2 := (32, [.int (ki 5), .int v10, .int v7, .int (kb 20), .int (ki 3), .int x2, .ref x0], [(0, .ref x0), (1, .int x1), (2, .int x2)], h)) rfl ?_
      obtain ⟨v12, e13, hF⟩ := mm_bind hF
      refine go_div hX c_180 rfl e13 ?_
      refine go_adv hX c_180 3 (F2 := (36, [.int ((v7 + v12) + (ki 1)), .int (kb 20), .int (ki 3), .int x2, .ref x0], [(0, .ref x0), (1, .int x1), (2, .int x2)], h)) rfl ?_
      obtain ⟨v14, e15, hF⟩ := mm_bind hF
      refine go_cS hX (As := [.int (kb 20), .int ((v7 + v12) + (ki 1))]) (rv := some (.int v14)) (h2 := h) c_180 rfl (by decide) (Nat.le_of_ble_eq_true rfl) rfl rfl (Nat.le_of_ble_eq_true rfl) (fun Q2 hQ2 => r_X6_least hX (d := (d + 2)) e15 hQ2) ?_
      obtain ⟨_, e16, hF⟩ := mm_bind hF
      obtain ⟨v17, e18, hF⟩ := mm_bind hF
      refine go_cV hX (As := [.int x2, .int (ki 3), .int v14]) (rv := none) (h2 := v17) (ci := 6) c_180 rfl (Nat.le_of_ble_eq_true rfl) rfl rfl e16 (by decide) (Nat.le_of_ble_eq_true rfl) (fun Q2 hQ2 => r_X6_ls hX (d := (d + 2)) e18 hQ2) ?_
      refine go_adv hX c_180 3 (F2 := (45, [.int x2, .ref x0, .int x1], [(0, .ref x0), (1, .int x1), (2, .int x2)], v17)) rfl ?_
      obtain ⟨_, e19, hF⟩ := mm_bind hF
      obtain ⟨v20, e21, hF⟩ := mm_bind hF
      refine go_cV hX (As := [.int x2]) (rv := some (.int v20.1)) (h2 := v20.2) (ci := 6) c_180 rfl (Nat.le_of_ble_eq_true rfl) rfl rfl e19 (by decide) (Nat.le_of_ble_eq_true rfl) (fun Q2 hQ2 => r_X6_givesRent hX (d := d) e21 hQ2) ?_
      refine go_adv hX c_180 3 (F2 := (53, [], [(2, .int (x2 + ki 1)), (1, .int (x1 + v20.1)), (0, .ref x0)], v20.2)) rfl ?_
      refine go_to hX 4 c_180 rfl rfl ?_
      refine go_ls [(0, .ref x0), (1, .int (x1 + v20.1)), (2, .int (x2 + ki 1))] ⟨rfl, ⟨rfl, ⟨rfl, trivial⟩⟩⟩ ?_
      exact ih x0 (x1 + v20.1) (x2 + ki 1) v20.2 _ hF hE
theorem r_X6_goesBy {X : mm_Cl} (hX : mm_mono X) {d c k : Nat} {Q : mm_Re → Prop} {h : mm_S} {x0 : Nat} {o : (Int32 × mm_S)} (hF : F_X6_goesBy h x0 = some o) (hQ : Q (.inl (some (.int o.1)), o.2)) : mm_Run X (d + 4) 180 c k [.ref x0] h Q := by
  unfold F_X6_goesBy at hF
  refine mm_Run_in (by decide) (by decide) (Nat.le_of_ble_eq_true rfl) ?_
  show mm_Ex (mm_Run X (d + 3)) 180 Q (0, [], [(0, .ref x0)], h) c k
  refine go_adv hX c_180 4 (F2 := (4, [], [(2, .int (ki 0)), (1, .int (ki 0)), (0, .ref x0)], h)) rfl ?_
  refine go_ls [(0, .ref x0), (1, .int (ki 0)), (2, .int (ki 0))] ⟨rfl, ⟨rfl, ⟨rfl, trivial⟩⟩⟩ ?_
  obtain ⟨o22, e23, hF⟩ := mm_bind hF
  refine r_X6_goesBy_L4 hX 1000 x0 (ki 0) (ki 0) h o22 e23 ?_
  refine go_adv hX c_180 1 (F2 := (57, [.ref x0], [(0, .ref x0), (1, .int o22.1)], o22.2)) rfl ?_
  obtain ⟨v24, e25, hF⟩ := mm_bind hF
  refine go_gR hX c_180 rfl e25 ?_
  refine go_adv hX c_180 1 (F2 := (61, [.int (ki 1), .ref v24], [(0, .ref x0), (1, .int o22.1)], o22.2)) rfl ?_
  refine go_p hX c_180 rfl rfl ⟨rfl, rfl⟩ ?_
  obtain ⟨v26, e27, hF⟩ := mm_bind hF
  refine go_aI hX c_180 rfl e27 ?_
  refine go_adv hX c_180 2 (F2 := (65, [.int (v26 + (ki 1)), .int (ki 1), .ref v24], [(0, .ref x0), (1, .int o22.1)], o22.2)) rfl ?_
  obtain ⟨h28, e29, hF⟩ := mm_bind hF
  refine go_sI hX c_180 rfl e29 ?_
  refine go_adv hX c_180 1 (F2 := (67, [.ref x0], [(0, .ref x0), (1, .int o22.1)], h28)) rfl ?_
  obtain ⟨v30, e31, hF⟩ := mm_bind hF
  refine go_gR hX c_180 rfl e31 ?_
  refine go_adv hX c_180 3 (F2 := (73, [.ref x0, .int (ki 1), .int (ki 3), .ref v30], [(0, .ref x0), (1, .int o22.1)], h28)) rfl ?_
  obtain ⟨v32, e33, hF⟩ := mm_bind hF
  refine go_gR hX c_180 rfl e33 ?_
  refine go_adv hX c_180 1 (F2 := (77, [.int (ki 3), .ref v32, .int (ki 1), .int (ki 3), .ref v30], [(0, .ref x0), (1, .int o22.1)], h28)) rfl ?_
  obtain ⟨v34, e35, hF⟩ := mm_bind hF
  refine go_aI hX c_180 rfl e35 ?_
  refine go_adv hX c_180 1 (F2 := (79, [.int ((ki 1) - v34), .int (ki 3), .ref v30], [(0, .ref x0), (1, .int o22.1)], h28)) rfl ?_
  obtain ⟨h36, e37, hF⟩ := mm_bind hF
  refine go_sI hX c_180 rfl e37 ?_
  refine go_adv hX c_180 1 (F2 := (81, [.int o22.1], [(0, .ref x0), (1, .int o22.1)], h36)) rfl ?_
  cases hF
  exact go_iret hX c_180 rfl rfl rfl hQ
theorem c_181 : mm_cd 181 = k_X6_day := rfl
def F_X6_day (h : mm_S) (x0 : Nat) : Option (Int32 × mm_S) :=
  (fx_is h x0 6).bind fun _ =>
  (F_X6_begins h x0).bind fun v2 =>
  (fx_is v2 x0 6).bind fun _ =>
  (F_X6_goesBy v2 x0).bind fun v5 =>
  (fx_is v5.2 x0 6).bind fun _ =>
  (F_X6_keeps v5.2 x0 v5.1).bind fun v8 =>
  some (v8.1, v8.2)
theorem r_X6_day {X : mm_Cl} (hX : mm_mono X) {d c k : Nat} {Q : mm_Re → Prop} {h : mm_S} {x0 : Nat} {o : (Int32 × mm_S)} (hF : F_X6_day h x0 = some o) (hQ : Q (.inl (some (.int o.1)), o.2)) : mm_Run X (d + 5) 181 c k [.ref x0] h Q := by
  unfold F_X6_day at hF
  refine mm_Run_in (by decide) (by decide) (Nat.le_of_ble_eq_true rfl) ?_
  show mm_Ex (mm_Run X (d + 4)) 181 Q (0, [], [(0, .ref x0)], h) c k
  refine go_adv hX c_181 1 (F2 := (1, [.ref x0], [(0, .ref x0)], h)) rfl ?_
  obtain ⟨_, e1, hF⟩ := mm_bind hF
  obtain ⟨v2, e3, hF⟩ := mm_bind hF
  refine go_cV hX (As := []) (rv := none) (h2 := v2) (ci := 6) c_181 rfl (Nat.le_of_ble_eq_true rfl) rfl rfl e1 (by decide) (Nat.le_of_ble_eq_true rfl) (fun Q2 hQ2 => r_X6_begins hX (d := (d + 2)) e3 hQ2) ?_
  refine go_adv hX c_181 2 (F2 := (6, [.ref x0, .ref x0], [(0, .ref x0)], v2)) rfl ?_
  obtain ⟨_, e4, hF⟩ := mm_bind hF
  obtain ⟨v5, e6, hF⟩ := mm_bind hF
  refine go_cV hX (As := []) (rv := some (.int v5.1)) (h2 := v5.2) (ci := 6) c_181 rfl (Nat.le_of_ble_eq_true rfl) rfl rfl e4 (by decide) (Nat.le_of_ble_eq_true rfl) (fun Q2 hQ2 => r_X6_goesBy hX (d := d) e6 hQ2) ?_
  obtain ⟨_, e7, hF⟩ := mm_bind hF
  obtain ⟨v8, e9, hF⟩ := mm_bind hF
  refine go_cV hX (As := [.int v5.1]) (rv := some (.int v8.1)) (h2 := v8.2) (ci := 6) c_181 rfl (Nat.le_of_ble_eq_true rfl) rfl rfl e7 (by decide) (Nat.le_of_ble_eq_true rfl) (fun Q2 hQ2 => r_X6_keeps hX (d := (d + 2)) e9 hQ2) ?_
  cases hF
  exact go_iret hX c_181 rfl rfl rfl hQ
theorem c_182 : mm_cd 182 = k_X6_leasedTo := rfl
def F_X6_leasedTo_L4 (h : mm_S) : Nat → Nat → Int32 → Int32 → Int32 → Option Int32
  | 0, _, _, _, _ => none
  | n + 1, x0, x1, x2, x3 =>
    (fx_gR h x0 6 0).bind fun v1 =>
    (fx_aI h v1 (ki 0)).bind fun v3 =>
    if v3 ≤ x3 then
      some x2
    else
      (fx_is h x0 6).bind fun _ =>
      (F_X6_sv h x0 x3 (ki 5)).bind fun v7 =>
      if v7 ≠ x1 then
        F_X6_leasedTo_L4 h n x0 x1 (x2 + (ki 0)) (x3 + ki 1)
      else
        F_X6_leasedTo_L4 h n x0 x1 (x2 + (ki 1)) (x3 + ki 1)
def F_X6_leasedTo (h : mm_S) (x0 : Nat) (x1 : Int32) : Option Int32 :=
  (F_X6_leasedTo_L4 h 1000 x0 x1 (ki 0) (ki 0)).bind fun o10 =>
  some o10
theorem r_X6_leasedTo_L4 {X : mm_Cl} (hX : mm_mono X) {d c k : Nat} {Q : mm_Re → Prop} {h : mm_S} : ∀ (n : Nat) (x0 : Nat) (x1 : Int32) (x2 : Int32) (x3 : Int32) (o : Int32), F_X6_leasedTo_L4 h n x0 x1 x2 x3 = some o → (mm_Ex (mm_Run X (d + 1)) 182 Q (38, [], [(2, .int o)], h) c k) → mm_Ex (mm_Run X (d + 1)) 182 Q (4, [], [(0, .ref x0), (1, .int x1), (2, .int x2), (3, .int x3)], h) c k := by
  intro n
  induction n with
  | zero => intro x0 x1 x2 x3 o hF; cases hF
  | succ n ih =>
    intro x0 x1 x2 x3 o hF hE
    unfold F_X6_leasedTo_L4 at hF
    refine go_adv hX c_182 2 (F2 := (6, [.ref x0, .int x3], [(0, .ref x0), (1, .int x1), (2, .int x2), (3, .int x3)], h)) rfl ?_
    obtain ⟨v1, e2, hF⟩ := mm_bind hF
    refine go_gR hX c_182 rfl e2 ?_
    refine go_adv hX c_182 1 (F2 := (10, [.int (ki 0), .ref v1, .int x3], [(0, .ref x0), (1, .int x1), (2, .int x2), (3, .int x3)], h)) rfl ?_
    obtain ⟨v3, e4, hF⟩ := mm_bind hF
    refine go_aI hX c_182 rfl e4 ?_
    rcases mm_ite hF with ⟨hc5, hF⟩ | ⟨hc5, hF⟩
    · refine go_ct hX 38 c_182 rfl rfl hc5 ?_
      cases hF
      refine go_ls [(2, .int x2)] ⟨rfl, trivial⟩ ?_
      exact hE
    · refine go_cf hX c_182 rfl (by decide) hc5 ?_
      refine go_adv hX c_182 4 (F2 := (18, [.int (ki 5), .int x3, .ref x0, .int x2], [(0, .ref x0), (1, .int x1), (2, .int x2), (3, .int x3)], h)) rfl ?_
      obtain ⟨_, e6, hF⟩ := mm_bind hF
      obtain ⟨v7, e8, hF⟩ := mm_bind hF
      refine go_cV hX (As := [.int x3, .int (ki 5)]) (rv := some (.int v7)) (h2 := h) (ci := 6) c_182 rfl (Nat.le_of_ble_eq_true rfl) rfl rfl e6 (by decide) (Nat.le_of_ble_eq_true rfl) (fun Q2 hQ2 => r_X6_sv hX (d := d) e8 hQ2) ?_
      refine go_adv hX c_182 1 (F2 := (22, [.int x1, .int v7, .int x2], [(0, .ref x0), (1, .int x1), (2, .int x2), (3, .int x3)], h)) rfl ?_
      rcases mm_ite hF with ⟨hc9, hF⟩ | ⟨hc9, hF⟩
      · refine go_ct hX 29 c_182 rfl rfl hc9 ?_
        refine go_adv hX c_182 4 (F2 := (35, [], [(3, .int (x3 + ki 1)), (2, .int (x2 + (ki 0))), (0, .ref x0), (1, .int x1)], h)) rfl ?_
        refine go_to hX 4 c_182 rfl rfl ?_
        refine go_ls [(0, .ref x0), (1, .int x1), (2, .int (x2 + (ki 0))), (3, .int (x3 + ki 1))] ⟨rfl, ⟨rfl, ⟨rfl, ⟨rfl, trivial⟩⟩⟩⟩ ?_
        exact ih x0 x1 (x2 + (ki 0)) (x3 + ki 1) _ hF hE
      · refine go_cf hX c_182 rfl (by decide) hc9 ?_
        refine go_adv hX c_182 1 (F2 := (26, [.int (ki 1), .int x2], [(0, .ref x0), (1, .int x1), (2, .int x2), (3, .int x3)], h)) rfl ?_
        refine go_to hX 30 c_182 rfl rfl ?_
        refine go_adv hX c_182 3 (F2 := (35, [], [(3, .int (x3 + ki 1)), (2, .int (x2 + (ki 1))), (0, .ref x0), (1, .int x1)], h)) rfl ?_
        refine go_to hX 4 c_182 rfl rfl ?_
        refine go_ls [(0, .ref x0), (1, .int x1), (2, .int (x2 + (ki 1))), (3, .int (x3 + ki 1))] ⟨rfl, ⟨rfl, ⟨rfl, ⟨rfl, trivial⟩⟩⟩⟩ ?_
        exact ih x0 x1 (x2 + (ki 1)) (x3 + ki 1) _ hF hE
theorem r_X6_leasedTo {X : mm_Cl} (hX : mm_mono X) {d c k : Nat} {Q : mm_Re → Prop} {h : mm_S} {x0 : Nat} {x1 : Int32} {o : Int32} (hF : F_X6_leasedTo h x0 x1 = some o) (hQ : Q (.inl (some (.int o)), h)) : mm_Run X (d + 2) 182 c k [.ref x0, .int x1] h Q := by
  unfold F_X6_leasedTo at hF
  refine mm_Run_in (by decide) (by decide) (Nat.le_of_ble_eq_true rfl) ?_
  show mm_Ex (mm_Run X (d + 1)) 182 Q (0, [], [(0, .ref x0), (1, .int x1)], h) c k
  refine go_adv hX c_182 4 (F2 := (4, [], [(3, .int (ki 0)), (2, .int (ki 0)), (0, .ref x0), (1, .int x1)], h)) rfl ?_
  refine go_ls [(0, .ref x0), (1, .int x1), (2, .int (ki 0)), (3, .int (ki 0))] ⟨rfl, ⟨rfl, ⟨rfl, ⟨rfl, trivial⟩⟩⟩⟩ ?_
  obtain ⟨o10, e11, hF⟩ := mm_bind hF
  refine r_X6_leasedTo_L4 hX 1000 x0 x1 (ki 0) (ki 0) o10 e11 ?_
  refine go_adv hX c_182 1 (F2 := (39, [.int o10], [(2, .int o10)], h)) rfl ?_
  cases hF
  exact go_iret hX c_182 rfl rfl rfl hQ

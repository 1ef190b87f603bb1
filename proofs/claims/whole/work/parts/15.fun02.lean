theorem c_113 : mm_cd 113 = k_X5_isRefused := rfl
def F_X5_isRefused (h : mm_S) (x0 : Nat) (x1 : Int64) : Option (Int32 × mm_S) :=
  if (lg_cmp x1 (kl 0)) ≠ 0 then
    (fx_pV h x0 5 10 (.long x1)).bind fun h2 =>
    (fx_pV h2 x0 5 11 (.long (kl 0))).bind fun h4 =>
    some (ki 1, h4)
  else
    some (ki 0, h)
theorem r_X5_isRefused {X : mm_Cl} (hX : mm_mono X) {d c k : Nat} {Q : mm_Re → Prop} {h : mm_S} {x0 : Nat} {x1 : Int64} {o : (Int32 × mm_S)} (hF : F_X5_isRefused h x0 x1 = some o) (hQ : Q (.inl (some (.int o.1)), o.2)) : mm_Run X (d + 1) 113 c k [.ref x0, .long x1] h Q := by
  unfold F_X5_isRefused at hF
  refine mm_Run_in (by decide) (by decide) (Nat.le_of_ble_eq_true rfl) ?_
  show mm_Ex (mm_Run X d) 113 Q (0, [], [(0, .ref x0), (1, .long x1)], h) c k
  refine go_adv hX c_113 3 (F2 := (3, [.int (lg_cmp x1 (kl 0))], [(0, .ref x0), (1, .long x1)], h)) rfl ?_
  rcases mm_ite hF with ⟨hc1, hF⟩ | ⟨hc1, hF⟩
  · refine go_zt hX 8 c_113 rfl rfl hc1 ?_
    refine go_adv hX c_113 2 (F2 := (10, [.long x1, .ref x0], [(0, .ref x0), (1, .long x1)], h)) rfl ?_
    obtain ⟨h2, e3, hF⟩ := mm_bind hF
    refine go_pV hX c_113 rfl e3 ?_
    refine go_adv hX c_113 2 (F2 := (15, [.long (kl 0), .ref x0], [(0, .ref x0), (1, .long x1)], h2)) rfl ?_
    obtain ⟨h4, e5, hF⟩ := mm_bind hF
    refine go_pV hX c_113 rfl e5 ?_
    refine go_adv hX c_113 1 (F2 := (19, [.int (ki 1)], [(0, .ref x0), (1, .long x1)], h4)) rfl ?_
    cases hF
    exact go_iret hX c_113 rfl rfl (by decide) hQ
  · refine go_zf hX c_113 rfl (by decide) hc1 ?_
    refine go_adv hX c_113 1 (F2 := (7, [.int (ki 0)], [(0, .ref x0), (1, .long x1)], h)) rfl ?_
    cases hF
    exact go_iret hX c_113 rfl rfl (by decide) hQ
theorem c_112 : mm_cd 112 = k_X5_remember := rfl
def F_X5_remember (h : mm_S) (x0 : Nat) : Option mm_S :=
  (fx_gR h x0 5 4).bind fun v1 =>
  (fx_gI h x0 5 6).bind fun v3 =>
  (fx_aR h v1 v3).bind fun v5 =>
  (fx_gR h x0 5 0).bind fun v7 =>
  (fx_is h v5 3).bind fun _ =>
  (F_X3_copyFrom h v5 v7).bind fun v10 =>
  (fx_gI v10 x0 5 6).bind fun v12 =>
  (fx_rem (v12 + (ki 1)) (kb 8)).bind fun v14 =>
  (fx_pV v10 x0 5 6 (.int v14)).bind fun h16 =>
  (fx_gI h16 x0 5 5).bind fun v18 =>
  (fx_pV h16 x0 5 5 (.int (if (v18 + (ki 1)) < (kb 8) then (v18 + (ki 1)) else (kb 8)))).bind fun h20 =>
  some h20
theorem r_X5_remember {X : mm_Cl} (hX : mm_mono X) {d c k : Nat} {Q : mm_Re → Prop} {h : mm_S} {x0 : Nat} {o : mm_S} (hF : F_X5_remember h x0 = some o) (hQ : Q (.inl none, o)) : mm_Run X (d + 3) 112 c k [.ref x0] h Q := by
  unfold F_X5_remember at hF
  refine mm_Run_in (by decide) (by decide) (Nat.le_of_ble_eq_true rfl) ?_
  show mm_Ex (mm_Run X (d + 2)) 112 Q (0, [], [(0, .ref x0)], h) c k
  refine go_adv hX c_112 1 (F2 := (1, [.ref x0], [(0, .ref x0)], h)) rfl ?_
  obtain ⟨v1, e2, hF⟩ := mm_bind hF
  refine go_gR hX c_112 rfl e2 ?_
  refine go_adv hX c_112 1 (F2 := (5, [.ref x0, .ref v1], [(0, .ref x0)], h)) rfl ?_
  obtain ⟨v3, e4, hF⟩ := mm_bind hF
  refine go_gI hX c_112 rfl e4 ?_
  obtain ⟨v5, e6, hF⟩ := mm_bind hF
  refine go_aR hX c_112 rfl e6 ?_
  refine go_adv hX c_112 1 (F2 := (10, [.ref x0, .ref v5], [(0, .ref x0)], h)) rfl ?_
  obtain ⟨v7, e8, hF⟩ := mm_bind hF
  refine go_gR hX c_112 rfl e8 ?_
  obtain ⟨_, e9, hF⟩ := mm_bind hF
  obtain ⟨v10, e11, hF⟩ := mm_bind hF
  refine go_cV hX (As := [.ref v7]) (rv := none) (h2 := v10) (ci := 3) c_112 rfl (Nat.le_of_ble_eq_true rfl) rfl rfl e9 (by decide) (Nat.le_of_ble_eq_true rfl) (fun Q2 hQ2 => r_X3_copyFrom hX (d := d) e11 hQ2) ?_
  refine go_adv hX c_112 2 (F2 := (18, [.ref x0, .ref x0], [(0, .ref x0)], v10)) rfl ?_
  obtain ⟨v12, e13, hF⟩ := mm_bind hF
  refine go_gI hX c_112 rfl e13 ?_
  refine go_adv hX c_112 3 (F2 := (25, [.int (kb 8), .int (v12 + (ki 1)), .ref x0], [(0, .ref x0)], v10)) rfl ?_
  obtain ⟨v14, e15, hF⟩ := mm_bind hF
  refine go_rem hX c_112 rfl e15 ?_
  obtain ⟨h16, e17, hF⟩ := mm_bind hF
  refine go_pV hX c_112 rfl e17 ?_
  refine go_adv hX c_112 3 (F2 := (33, [.ref x0, .int (kb 8), .ref x0], [(0, .ref x0)], h16)) rfl ?_
  obtain ⟨v18, e19, hF⟩ := mm_bind hF
  refine go_gI hX c_112 rfl e19 ?_
  refine go_adv hX c_112 2 (F2 := (38, [.int (v18 + (ki 1)), .int (kb 8), .ref x0], [(0, .ref x0)], h16)) rfl ?_
  refine go_min hX c_112 rfl (Nat.le_of_ble_eq_true rfl) ?_
  obtain ⟨h20, e21, hF⟩ := mm_bind hF
  refine go_pV hX c_112 rfl e21 ?_
  cases hF
  exact go_ret hX c_112 rfl rfl hQ
theorem c_68 : mm_cd 68 = k_X5_build := rfl
def F_X5_build (h : mm_S) (x0 : Nat) (x1 : Int32) (x2 : Int32) (x3 : Int32) : Option ((Int32 ⊕ String) × mm_S) :=
  (fx_gR h x0 5 0).bind fun v1 =>
  (fx_is h v1 3).bind fun _ =>
  (F_X3_whyNotBuild h v1 x1 x2 x3).bind fun v4 =>
  (fx_is h x0 5).bind fun _ =>
  (F_X5_isRefused h x0 v4).bind fun v7 =>
  if v7.1 = 0 then
    (fx_is v7.2 x0 5).bind fun _ =>
    (F_X5_remember v7.2 x0).bind fun v11 =>
    (fx_gR v11 x0 5 0).bind fun v13 =>
    (fx_is v11 v13 3).bind fun _ =>
    (F_X3_addStair v11 v13 x1 x2 x3).bind fun v16 =>
    some (.inl v16.1, v16.2)
  else
    some (.inr "java/lang/UnsupportedOperationException", v7.2)
theorem r_X5_build {X : mm_Cl} (hX : mm_mono X) {d c k : Nat} {Q : mm_Re → Prop} (hck : 1 ≤ c ∧ 6 ≤ k) {h : mm_S} {x0 : Nat} {x1 : Int32} {x2 : Int32} {x3 : Int32} {o : ((Int32 ⊕ String) × mm_S)} (hF : F_X5_build h x0 x1 x2 x3 = some o) (hQ : Q (fx_oI o.1, o.2)) : mm_Run X (d + 4) 68 c k [.ref x0, .int x1, .int x2, .int x3] h Q := by
  unfold F_X5_build at hF
  refine mm_Run_in (by decide) (by decide) (Nat.le_of_ble_eq_true rfl) ?_
  show mm_Ex (mm_Run X (d + 3)) 68 Q (0, [], [(0, .ref x0), (1, .int x1), (2, .int x2), (3, .int x3)], h) c k
  refine go_adv hX c_68 2 (F2 := (2, [.ref x0, .ref x0], [(0, .ref x0), (1, .int x1), (2, .int x2), (3, .int x3)], h)) rfl ?_
  obtain ⟨v1, e2, hF⟩ := mm_bind hF
  refine go_gR hX c_68 rfl e2 ?_
  refine go_adv hX c_68 3 (F2 := (8, [.int x3, .int x2, .int x1, .ref v1, .ref x0], [(0, .ref x0), (1, .int x1), (2, .int x2), (3, .int x3)], h)) rfl ?_
  obtain ⟨_, e3, hF⟩ := mm_bind hF
  obtain ⟨v4, e5, hF⟩ := mm_bind hF
  refine go_cV hX (As := [.int x1, .int x2, .int x3]) (rv := some (.long v4)) (h2 := h) (ci := 3) c_68 rfl (Nat.le_of_ble_eq_true rfl) rfl rfl e3 (by decide) (Nat.le_of_ble_eq_true rfl) (fun Q2 hQ2 => r_X3_whyNotBuild hX (d := d) e5 hQ2) ?_
  obtain ⟨_, e6, hF⟩ := mm_bind hF
  obtain ⟨v7, e8, hF⟩ := mm_bind hF
  refine go_cV hX (As := [.long v4]) (rv := some (.int v7.1)) (h2 := v7.2) (ci := 5) c_68 rfl (Nat.le_of_ble_eq_true rfl) rfl rfl e6 (by decide) (Nat.le_of_ble_eq_true rfl) (fun Q2 hQ2 => r_X5_isRefused hX (d := (d + 2)) e8 hQ2) ?_
  rcases mm_ite hF with ⟨hc9, hF⟩ | ⟨hc9, hF⟩
  · refine go_zt hX 27 c_68 rfl rfl hc9 ?_
    refine go_adv hX c_68 1 (F2 := (28, [.ref x0], [(0, .ref x0), (1, .int x1), (2, .int x2), (3, .int x3)], v7.2)) rfl ?_
    obtain ⟨_, e10, hF⟩ := mm_bind hF
    obtain ⟨v11, e12, hF⟩ := mm_bind hF
    refine go_cV hX (As := []) (rv := none) (h2 := v11) (ci := 5) c_68 rfl (Nat.le_of_ble_eq_true rfl) rfl rfl e10 (by decide) (Nat.le_of_ble_eq_true rfl) (fun Q2 hQ2 => r_X5_remember hX (d := d) e12 hQ2) ?_
    refine go_adv hX c_68 1 (F2 := (32, [.ref x0], [(0, .ref x0), (1, .int x1), (2, .int x2), (3, .int x3)], v11)) rfl ?_
    obtain ⟨v13, e14, hF⟩ := mm_bind hF
    refine go_gR hX c_68 rfl e14 ?_
    refine go_adv hX c_68 3 (F2 := (38, [.int x3, .int x2, .int x1, .ref v13], [(0, .ref x0), (1, .int x1), (2, .int x2), (3, .int x3)], v11)) rfl ?_
    obtain ⟨_, e15, hF⟩ := mm_bind hF
    obtain ⟨v16, e17, hF⟩ := mm_bind hF
    refine go_cV hX (As := [.int x1, .int x2, .int x3]) (rv := some (.int v16.1)) (h2 := v16.2) (ci := 3) c_68 rfl (Nat.le_of_ble_eq_true rfl) rfl rfl e15 (by decide) (Nat.le_of_ble_eq_true rfl) (fun Q2 hQ2 => r_X3_addStair hX (d := d) e17 hQ2) ?_
    cases hF
    exact go_iret hX c_68 rfl rfl rfl hQ
  · refine go_zf hX c_68 rfl (by decide) hc9 ?_
    cases hF
    exact go_thr hX "java/lang/UnsupportedOperationException" c_68 rfl (by decide) rfl (Nat.le_of_ble_eq_true rfl) hck hQ
theorem c_69 : mm_cd 69 = k_X5_tear := rfl
def F_X5_tear (h : mm_S) (x0 : Nat) (x1 : Int32) : Option ((Int32 ⊕ String) × mm_S) :=
  (fx_gR h x0 5 0).bind fun v1 =>
  (fx_is h v1 3).bind fun _ =>
  (F_X3_whyNotTear h v1 x1).bind fun v4 =>
  (fx_is h x0 5).bind fun _ =>
  (F_X5_isRefused h x0 v4).bind fun v7 =>
  if v7.1 = 0 then
    (fx_is v7.2 x0 5).bind fun _ =>
    (F_X5_remember v7.2 x0).bind fun v11 =>
    (fx_gR v11 x0 5 0).bind fun v13 =>
    (fx_is v11 v13 3).bind fun _ =>
    (F_X3_removeStair v11 v13 x1).bind fun v16 =>
    some (.inl v16.1, v16.2)
  else
    some (.inr "java/lang/UnsupportedOperationException", v7.2)
theorem r_X5_tear {X : mm_Cl} (hX : mm_mono X) {d c k : Nat} {Q : mm_Re → Prop} (hck : 1 ≤ c ∧ 6 ≤ k) {h : mm_S} {x0 : Nat} {x1 : Int32} {o : ((Int32 ⊕ String) × mm_S)} (hF : F_X5_tear h x0 x1 = some o) (hQ : Q (fx_oI o.1, o.2)) : mm_Run X (d + 4) 69 c k [.ref x0, .int x1] h Q := by
  unfold F_X5_tear at hF
  refine mm_Run_in (by decide) (by decide) (Nat.le_of_ble_eq_true rfl) ?_
  show mm_Ex (mm_Run X (d + 3)) 69 Q (0, [], [(0, .ref x0), (1, .int x1)], h) c k
  refine go_adv hX c_69 2 (F2 := (2, [.ref x0, .ref x0], [(0, .ref x0), (1, .int x1)], h)) rfl ?_
  obtain ⟨v1, e2, hF⟩ := mm_bind hF
  refine go_gR hX c_69 rfl e2 ?_
  refine go_adv hX c_69 1 (F2 := (6, [.int x1, .ref v1, .ref x0], [(0, .ref x0), (1, .int x1)], h)) rfl ?_
  obtain ⟨_, e3, hF⟩ := mm_bind hF
  obtain ⟨v4, e5, hF⟩ := mm_bind hF
  refine go_cV hX (As := [.int x1]) (rv := some (.long v4)) (h2 := h) (ci := 3) c_69 rfl (Nat.le_of_ble_eq_true rfl) rfl rfl e3 (by decide) (Nat.le_of_ble_eq_true rfl) (fun Q2 hQ2 => r_X3_whyNotTear hX (d := d) e5 hQ2) ?_
  obtain ⟨_, e6, hF⟩ := mm_bind hF
  obtain ⟨v7, e8, hF⟩ := mm_bind hF
  refine go_cV hX (As := [.long v4]) (rv := some (.int v7.1)) (h2 := v7.2) (ci := 5) c_69 rfl (Nat.le_of_ble_eq_true rfl) rfl rfl e6 (by decide) (Nat.le_of_ble_eq_true rfl) (fun Q2 hQ2 => r_X5_isRefused hX (d := (d + 2)) e8 hQ2) ?_
  rcases mm_ite hF with ⟨hc9, hF⟩ | ⟨hc9, hF⟩
  · refine go_zt hX 25 c_69 rfl rfl hc9 ?_
    refine go_adv hX c_69 1 (F2 := (26, [.ref x0], [(0, .ref x0), (1, .int x1)], v7.2)) rfl ?_
    obtain ⟨_, e10, hF⟩ := mm_bind hF
    obtain ⟨v11, e12, hF⟩ := mm_bind hF
    refine go_cV hX (As := []) (rv := none) (h2 := v11) (ci := 5) c_69 rfl (Nat.le_of_ble_eq_true rfl) rfl rfl e10 (by decide) (Nat.le_of_ble_eq_true rfl) (fun Q2 hQ2 => r_X5_remember hX (d := d) e12 hQ2) ?_
    refine go_adv hX c_69 1 (F2 := (30, [.ref x0], [(0, .ref x0), (1, .int x1)], v11)) rfl ?_
    obtain ⟨v13, e14, hF⟩ := mm_bind hF
    refine go_gR hX c_69 rfl e14 ?_
    refine go_adv hX c_69 1 (F2 := (34, [.int x1, .ref v13], [(0, .ref x0), (1, .int x1)], v11)) rfl ?_
    obtain ⟨_, e15, hF⟩ := mm_bind hF
    obtain ⟨v16, e17, hF⟩ := mm_bind hF
    refine go_cV hX (As := [.int x1]) (rv := some (.int v16.1)) (h2 := v16.2) (ci := 3) c_69 rfl (Nat.le_of_ble_eq_true rfl) rfl rfl e15 (by decide) (Nat.le_of_ble_eq_true rfl) (fun Q2 hQ2 => r_X3_removeStair hX (d := (d + 2)) e17 hQ2) ?_
    cases hF
    exact go_iret hX c_69 rfl rfl rfl hQ
  · refine go_zf hX c_69 rfl (by decide) hc9 ?_
    cases hF
    exact go_thr hX "java/lang/UnsupportedOperationException" c_69 rfl (by decide) rfl (Nat.le_of_ble_eq_true rfl) hck hQ
theorem c_70 : mm_cd 70 = k_X5_halve := rfl
def F_X5_halve (h : mm_S) (x0 : Nat) (x1 : Int32) : Option ((Int32 ⊕ String) × mm_S) :=
  (fx_gR h x0 5 0).bind fun v1 =>
  (fx_is h v1 3).bind fun _ =>
  (F_X3_whyNotHalve h v1 x1).bind fun v4 =>
  (fx_is h x0 5).bind fun _ =>
  (F_X5_isRefused h x0 v4).bind fun v7 =>
  if v7.1 = 0 then
    (fx_is v7.2 x0 5).bind fun _ =>
    (F_X5_remember v7.2 x0).bind fun v11 =>
    (fx_gR v11 x0 5 0).bind fun v13 =>
    (fx_is v11 v13 3).bind fun _ =>
    (F_X3_halveSteps v11 v13 x1).bind fun v16 =>
    some (.inl v16.1, v16.2)
  else
    some (.inr "java/lang/UnsupportedOperationException", v7.2)
theorem r_X5_halve {X : mm_Cl} (hX : mm_mono X) {d c k : Nat} {Q : mm_Re → Prop} (hck : 1 ≤ c ∧ 6 ≤ k) {h : mm_S} {x0 : Nat} {x1 : Int32} {o : ((Int32 ⊕ String) × mm_S)} (hF : F_X5_halve h x0 x1 = some o) (hQ : Q (fx_oI o.1, o.2)) : mm_Run X (d + 4) 70 c k [.ref x0, .int x1] h Q := by
  unfold F_X5_halve at hF
  refine mm_Run_in (by decide) (by decide) (Nat.le_of_ble_eq_true rfl) ?_
  show mm_Ex (mm_Run X (d + 3)) 70 Q (0, [], [(0, .ref x0), (1, .int x1)], h) c k
  refine go_adv hX c_70 2 (F2 := (2, [.ref x0, .ref x0], [(0, .ref x0), (1, .int x1)], h)) rfl ?_
  obtain ⟨v1, e2, hF⟩ := mm_bind hF
  refine go_gR hX c_70 rfl e2 ?_
  refine go_adv hX c_70 1 (F2 := (6, [.int x1, .ref v1, .ref x0], [(0, .ref x0), (1, .int x1)], h)) rfl ?_
  obtain ⟨_, e3, hF⟩ := mm_bind hF
  obtain ⟨v4, e5, hF⟩ := mm_bind hF
  refine go_cV hX (As := [.int x1]) (rv := some (.long v4)) (h2 := h) (ci := 3) c_70 rfl (Nat.le_of_ble_eq_true rfl) rfl rfl e3 (by decide) (Nat.le_of_ble_eq_true rfl) (fun Q2 hQ2 => r_X3_whyNotHalve hX (d := d) e5 hQ2) ?_
  obtain ⟨_, e6, hF⟩ := mm_bind hF
  obtain ⟨v7, e8, hF⟩ := mm_bind hF
  refine go_cV hX (As := [.long v4]) (rv := some (.int v7.1)) (h2 := v7.2) (ci := 5) c_70 rfl (Nat.le_of_ble_eq_true rfl) rfl rfl e6 (by decide) (Nat.le_of_ble_eq_true rfl) (fun Q2 hQ2 => r_X5_isRefused hX (d := (d + 2)) e8 hQ2) ?_
  rcases mm_ite hF with ⟨hc9, hF⟩ | ⟨hc9, hF⟩
  · refine go_zt hX 25 c_70 rfl rfl hc9 ?_
    refine go_adv hX c_70 1 (F2 := (26, [.ref x0], [(0, .ref x0), (1, .int x1)], v7.2)) rfl ?_
    obtain ⟨_, e10, hF⟩ := mm_bind hF
    obtain ⟨v11, e12, hF⟩ := mm_bind hF
    refine go_cV hX (As := []) (rv := none) (h2 := v11) (ci := 5) c_70 rfl (Nat.le_of_ble_eq_true rfl) rfl rfl e10 (by decide) (Nat.le_of_ble_eq_true rfl) (fun Q2 hQ2 => r_X5_remember hX (d := d) e12 hQ2) ?_
    refine go_adv hX c_70 1 (F2 := (30, [.ref x0], [(0, .ref x0), (1, .int x1)], v11)) rfl ?_
    obtain ⟨v13, e14, hF⟩ := mm_bind hF
    refine go_gR hX c_70 rfl e14 ?_
    refine go_adv hX c_70 1 (F2 := (34, [.int x1, .ref v13], [(0, .ref x0), (1, .int x1)], v11)) rfl ?_
    obtain ⟨_, e15, hF⟩ := mm_bind hF
    obtain ⟨v16, e17, hF⟩ := mm_bind hF
    refine go_cV hX (As := [.int x1]) (rv := some (.int v16.1)) (h2 := v16.2) (ci := 3) c_70 rfl (Nat.le_of_ble_eq_true rfl) rfl rfl e15 (by decide) (Nat.le_of_ble_eq_true rfl) (fun Q2 hQ2 => r_X3_halveSteps hX (d := (d + 2)) e17 hQ2) ?_
    cases hF
    exact go_iret hX c_70 rfl rfl rfl hQ
  · refine go_zf hX c_70 rfl (by decide) hc9 ?_
    cases hF
    exact go_thr hX "java/lang/UnsupportedOperationException" c_70 rfl (by decide) rfl (Nat.le_of_ble_eq_true rfl) hck hQ
theorem c_71 : mm_cd 71 = k_X5_lease := rfl
def F_X5_lease (h : mm_S) (x0 : Nat) (x1 : Int32) (x2 : Int32) (x3 : Int32) : Option ((Int32 ⊕ String) × mm_S) :=
  (fx_gR h x0 5 0).bind fun v1 =>
  (fx_is h v1 3).bind fun _ =>
  (F_X3_whyNotLease h v1 x1 x2 x3).bind fun v4 =>
  (fx_is h x0 5).bind fun _ =>
  (F_X5_isRefused h x0 v4).bind fun v7 =>
  if v7.1 = 0 then
    (fx_is v7.2 x0 5).bind fun _ =>
    (F_X5_remember v7.2 x0).bind fun v11 =>
    (fx_gR v11 x0 5 0).bind fun v13 =>
    (fx_is v11 v13 3).bind fun _ =>
    (F_X3_leaseTo v11 v13 x1 x2 x3).bind fun v16 =>
    some (.inl v16.1, v16.2)
  else
    some (.inr "java/lang/UnsupportedOperationException", v7.2)
theorem r_X5_lease {X : mm_Cl} (hX : mm_mono X) {d c k : Nat} {Q : mm_Re → Prop} (hck : 1 ≤ c ∧ 6 ≤ k) {h : mm_S} {x0 : Nat} {x1 : Int32} {x2 : Int32} {x3 : Int32} {o : ((Int32 ⊕ String) × mm_S)} (hF : F_X5_lease h x0 x1 x2 x3 = some o) (hQ : Q (fx_oI o.1, o.2)) : mm_Run X (d + 5) 71 c k [.ref x0, .int x1, .int x2, .int x3] h Q := by
  unfold F_X5_lease at hF
  refine mm_Run_in (by decide) (by decide) (Nat.le_of_ble_eq_true rfl) ?_
  show mm_Ex (mm_Run X (d + 4)) 71 Q (0, [], [(0, .ref x0), (1, .int x1), (2, .int x2), (3, .int x3)], h) c k
  refine go_adv hX c_71 2 (F2 := (2, [.ref x0, .ref x0], [(0, .ref x0), (1, .int x1), (2, .int x2), (3, .int x3)], h)) rfl ?_
  obtain ⟨v1, e2, hF⟩ := mm_bind hF
  refine go_gR hX c_71 rfl e2 ?_
  refine go_adv hX c_71 3 (F2 := (8, [.int x3, .int x2, .int x1, .ref v1, .ref x0], [(0, .ref x0), (1, .int x1), (2, .int x2), (3, .int x3)], h)) rfl ?_
  obtain ⟨_, e3, hF⟩ := mm_bind hF
  obtain ⟨v4, e5, hF⟩ := mm_bind hF
  refine go_cV hX (As := [.int x1, .int x2, .int x3]) (rv := some (.long v4)) (h2 := h) (ci := 3) c_71 rfl (Nat.le_of_ble_eq_true rfl) rfl rfl e3 (by decide) (Nat.le_of_ble_eq_true rfl) (fun Q2 hQ2 => r_X3_whyNotLease hX (d := d) e5 hQ2) ?_
  obtain ⟨_, e6, hF⟩ := mm_bind hF
  obtain ⟨v7, e8, hF⟩ := mm_bind hF
  refine go_cV hX (As := [.long v4]) (rv := some (.int v7.1)) (h2 := v7.2) (ci := 5) c_71 rfl (Nat.le_of_ble_eq_true rfl) rfl rfl e6 (by decide) (Nat.le_of_ble_eq_true rfl) (fun Q2 hQ2 => r_X5_isRefused hX (d := (d + 3)) e8 hQ2) ?_
  rcases mm_ite hF with ⟨hc9, hF⟩ | ⟨hc9, hF⟩
  · refine go_zt hX 27 c_71 rfl rfl hc9 ?_
    refine go_adv hX c_71 1 (F2 := (28, [.ref x0], [(0, .ref x0), (1, .int x1), (2, .int x2), (3, .int x3)], v7.2)) rfl ?_
    obtain ⟨_, e10, hF⟩ := mm_bind hF
    obtain ⟨v11, e12, hF⟩ := mm_bind hF
    refine go_cV hX (As := []) (rv := none) (h2 := v11) (ci := 5) c_71 rfl (Nat.le_of_ble_eq_true rfl) rfl rfl e10 (by decide) (Nat.le_of_ble_eq_true rfl) (fun Q2 hQ2 => r_X5_remember hX (d := (d + 1)) e12 hQ2) ?_
    refine go_adv hX c_71 1 (F2 := (32, [.ref x0], [(0, .ref x0), (1, .int x1), (2, .int x2), (3, .int x3)], v11)) rfl ?_
    obtain ⟨v13, e14, hF⟩ := mm_bind hF
    refine go_gR hX c_71 rfl e14 ?_
    refine go_adv hX c_71 3 (F2 := (38, [.int x3, .int x2, .int x1, .ref v13], [(0, .ref x0), (1, .int x1), (2, .int x2), (3, .int x3)], v11)) rfl ?_
    obtain ⟨_, e15, hF⟩ := mm_bind hF
    obtain ⟨v16, e17, hF⟩ := mm_bind hF
    refine go_cV hX (As := [.int x1, .int x2, .int x3]) (rv := some (.int v16.1)) (h2 := v16.2) (ci := 3) c_71 rfl (Nat.le_of_ble_eq_true rfl) rfl rfl e15 (by decide) (Nat.le_of_ble_eq_true rfl) (fun Q2 hQ2 => r_X3_leaseTo hX (d := (d + 2)) e17 hQ2) ?_
    cases hF
    exact go_iret hX c_71 rfl rfl rfl hQ
  · refine go_zf hX c_71 rfl (by decide) hc9 ?_
    cases hF
    exact go_thr hX "java/lang/UnsupportedOperationException" c_71 rfl (by decide) rfl (Nat.le_of_ble_eq_true rfl) hck hQ
theorem c_72 : mm_cd 72 = k_X5_climb := rfl
def F_X5_climb (h : mm_S) (x0 : Nat) (x1 : Int32) (x2 : Int32) : Option ((Int32 ⊕ String) × mm_S) :=
  (fx_gR h x0 5 0).bind fun v1 =>
  (fx_is h v1 3).bind fun _ =>
  (F_X3_whyNotClimb h v1 x1 x2).bind fun v4 =>
  (fx_is h x0 5).bind fun _ =>
  (F_X5_isRefused h x0 v4).bind fun v7 =>
  if v7.1 = 0 then
    (fx_is v7.2 x0 5).bind fun _ =>
    (F_X5_remember v7.2 x0).bind fun v11 =>
    (fx_gR v11 x0 5 0).bind fun v13 =>
    (fx_is v11 v13 3).bind fun _ =>
    (F_X3_goOver v11 v13 x1 x2).bind fun v16 =>
    some (.inl v16.1, v16.2)
  else
    some (.inr "java/lang/UnsupportedOperationException", v7.2)
theorem r_X5_climb {X : mm_Cl} (hX : mm_mono X) {d c k : Nat} {Q : mm_Re → Prop} (hck : 1 ≤ c ∧ 6 ≤ k) {h : mm_S} {x0 : Nat} {x1 : Int32} {x2 : Int32} {o : ((Int32 ⊕ String) × mm_S)} (hF : F_X5_climb h x0 x1 x2 = some o) (hQ : Q (fx_oI o.1, o.2)) : mm_Run X (d + 5) 72 c k [.ref x0, .int x1, .int x2] h Q := by
  unfold F_X5_climb at hF
  refine mm_Run_in (by decide) (by decide) (Nat.le_of_ble_eq_true rfl) ?_
  show mm_Ex (mm_Run X (d + 4)) 72 Q (0, [], [(0, .ref x0), (1, .int x1), (2, .int x2)], h) c k
  refine go_adv hX c_72 2 (F2 := (2, [.ref x0, .ref x0], [(0, .ref x0), (1, .int x1), (2, .int x2)], h)) rfl ?_
  obtain ⟨v1, e2, hF⟩ := mm_bind hF
  refine go_gR hX c_72 rfl e2 ?_
  refine go_adv hX c_72 2 (F2 := (7, [.int x2, .int x1, .ref v1, .ref x0], [(0, .ref x0), (1, .int x1), (2, .int x2)], h)) rfl ?_
  obtain ⟨_, e3, hF⟩ := mm_bind hF
  obtain ⟨v4, e5, hF⟩ := mm_bind hF
  refine go_cV hX (As := [.int x1, .int x2]) (rv := some (.long v4)) (h2 := h) (ci := 3) c_72 rfl (Nat.le_of_ble_eq_true rfl) rfl rfl e3 (by decide) (Nat.le_of_ble_eq_true rfl) (fun Q2 hQ2 => r_X3_whyNotClimb hX (d := d) e5 hQ2) ?_
  obtain ⟨_, e6, hF⟩ := mm_bind hF
  obtain ⟨v7, e8, hF⟩ := mm_bind hF
  refine go_cV hX (As := [.long v4]) (rv := some (.int v7.1)) (h2 := v7.2) (ci := 5) c_72 rfl (Nat.le_of_ble_eq_true rfl) rfl rfl e6 (by decide) (Nat.le_of_ble_eq_true rfl) (fun Q2 hQ2 => r_X5_isRefused hX (d := (d + 3)) e8 hQ2) ?_
  rcases mm_ite hF with ⟨hc9, hF⟩ | ⟨hc9, hF⟩
  · refine go_zt hX 26 c_72 rfl rfl hc9 ?_
    refine go_adv hX c_72 1 (F2 := (27, [.ref x0], [(0, .ref x0), (1, .int x1), (2, .int x2)], v7.2)) rfl ?_
    obtain ⟨_, e10, hF⟩ := mm_bind hF
    obtain ⟨v11, e12, hF⟩ := mm_bind hF
    refine go_cV hX (As := []) (rv := none) (h2 := v11) (ci := 5) c_72 rfl (Nat.le_of_ble_eq_true rfl) rfl rfl e10 (by decide) (Nat.le_of_ble_eq_true rfl) (fun Q2 hQ2 => r_X5_remember hX (d := (d + 1)) e12 hQ2) ?_
    refine go_adv hX c_72 1 (F2 := (31, [.ref x0], [(0, .ref x0), (1, .int x1), (2, .int x2)], v11)) rfl ?_
    obtain ⟨v13, e14, hF⟩ := mm_bind hF
    refine go_gR hX c_72 rfl e14 ?_
    refine go_adv hX c_72 2 (F2 := (36, [.int x2, .int x1, .ref v13], [(0, .ref x0), (1, .int x1), (2, .int x2)], v11)) rfl ?_
    obtain ⟨_, e15, hF⟩ := mm_bind hF
    obtain ⟨v16, e17, hF⟩ := mm_bind hF
    refine go_cV hX (As := [.int x1, .int x2]) (rv := some (.int v16.1)) (h2 := v16.2) (ci := 3) c_72 rfl (Nat.le_of_ble_eq_true rfl) rfl rfl e15 (by decide) (Nat.le_of_ble_eq_true rfl) (fun Q2 hQ2 => r_X3_goOver hX (d := (d + 2)) e17 hQ2) ?_
    cases hF
    exact go_iret hX c_72 rfl rfl rfl hQ
  · refine go_zf hX c_72 rfl (by decide) hc9 ?_
    cases hF
    exact go_thr hX "java/lang/UnsupportedOperationException" c_72 rfl (by decide) rfl (Nat.le_of_ble_eq_true rfl) hck hQ
theorem c_73 : mm_cd 73 = k_X5_levy := rfl
def F_X5_levy (h : mm_S) (x0 : Nat) (x1 : Int32) (x2 : Int32) : Option ((Int32 ⊕ String) × mm_S) :=
  (fx_gR h x0 5 0).bind fun v1 =>
  (fx_is h v1 3).bind fun _ =>
  (F_X3_whyNotLevy h v1 x1 x2).bind fun v4 =>
  (fx_is h x0 5).bind fun _ =>
  (F_X5_isRefused h x0 v4).bind fun v7 =>
  if v7.1 = 0 then
    (fx_is v7.2 x0 5).bind fun _ =>
    (F_X5_remember v7.2 x0).bind fun v11 =>
    (fx_gR v11 x0 5 0).bind fun v13 =>
    (fx_is v11 v13 3).bind fun _ =>
    (F_X3_levyDust v11 v13 x1 x2).bind fun v16 =>
    some (.inl v16.1, v16.2)
  else
    some (.inr "java/lang/UnsupportedOperationException", v7.2)
theorem r_X5_levy {X : mm_Cl} (hX : mm_mono X) {d c k : Nat} {Q : mm_Re → Prop} (hck : 1 ≤ c ∧ 6 ≤ k) {h : mm_S} {x0 : Nat} {x1 : Int32} {x2 : Int32} {o : ((Int32 ⊕ String) × mm_S)} (hF : F_X5_levy h x0 x1 x2 = some o) (hQ : Q (fx_oI o.1, o.2)) : mm_Run X (d + 5) 73 c k [.ref x0, .int x1, .int x2] h Q := by
  unfold F_X5_levy at hF
  refine mm_Run_in (by decide) (by decide) (Nat.le_of_ble_eq_true rfl) ?_
  show mm_Ex (mm_Run X (d + 4)) 73 Q (0, [], [(0, .ref x0), (1, .int x1), (2, .int x2)], h) c k
  refine go_adv hX c_73 2 (F2 := (2, [.ref x0, .ref x0], [(0, .ref x0), (1, .int x1), (2, .int x2)], h)) rfl ?_
  obtain ⟨v1, e2, hF⟩ := mm_bind hF
  refine go_gR hX c_73 rfl e2 ?_
  refine go_adv hX c_73 2 (F2 := (7, [.int x2, .int x1, .ref v1, .ref x0], [(0, .ref x0), (1, .int x1), (2, .int x2)], h)) rfl ?_
  obtain ⟨_, e3, hF⟩ := mm_bind hF
  obtain ⟨v4, e5, hF⟩ := mm_bind hF
  refine go_cV hX (As := [.int x1, .int x2]) (rv := some (.long v4)) (h2 := h) (ci := 3) c_73 rfl (Nat.le_of_ble_eq_true rfl) rfl rfl e3 (by decide) (Nat.le_of_ble_eq_true rfl) (fun Q2 hQ2 => r_X3_whyNotLevy hX (d := d) e5 hQ2) ?_
  obtain ⟨_, e6, hF⟩ := mm_bind hF
  obtain ⟨v7, e8, hF⟩ := mm_bind hF
  refine go_cV hX (As := [.long v4]) (rv := some (.int v7.1)) (h2 := v7.2) (ci := 5) c_73 rfl (Nat.le_of_ble_eq_true rfl) rfl rfl e6 (by decide) (Nat.le_of_ble_eq_true rfl) (fun Q2 hQ2 => r_X5_isRefused hX (d := (d + 3)) e8 hQ2) ?_
  rcases mm_ite hF with ⟨hc9, hF⟩ | ⟨hc9, hF⟩
  · refine go_zt hX 26 c_73 rfl rfl hc9 ?_
    refine go_adv hX c_73 1 (F2 := (27, [.ref x0], [(0, .ref x0), (1, .int x1), (2, .int x2)], v7.2)) rfl ?_
    obtain ⟨_, e10, hF⟩ := mm_bind hF
    obtain ⟨v11, e12, hF⟩ := mm_bind hF
    refine go_cV hX (As := []) (rv := none) (h2 := v11) (ci := 5) c_73 rfl (Nat.le_of_ble_eq_true rfl) rfl rfl e10 (by decide) (Nat.le_of_ble_eq_true rfl) (fun Q2 hQ2 => r_X5_remember hX (d := (d + 1)) e12 hQ2) ?_
    refine go_adv hX c_73 1 (F2 := (31, [.ref x0], [(0, .ref x0), (1, .int x1), (2, .int x2)], v11)) rfl ?_
    obtain ⟨v13, e14, hF⟩ := mm_bind hF
    refine go_gR hX c_73 rfl e14 ?_
    refine go_adv hX c_73 2 (F2 := (36, [.int x2, .int x1, .ref v13], [(0, .ref x0), (1, .int x1), (2, .int x2)], v11)) rfl ?_
    obtain ⟨_, e15, hF⟩ := mm_bind hF
    obtain ⟨v16, e17, hF⟩ := mm_bind hF
    refine go_cV hX (As := [.int x1, .int x2]) (rv := some (.int v16.1)) (h2 := v16.2) (ci := 3) c_73 rfl (Nat.le_of_ble_eq_true rfl) rfl rfl e15 (by decide) (Nat.le_of_ble_eq_true rfl) (fun Q2 hQ2 => r_X3_levyDust hX (d := (d + 2)) e17 hQ2) ?_
    cases hF
    exact go_iret hX c_73 rfl rfl rfl hQ
  · refine go_zf hX c_73 rfl (by decide) hc9 ?_
    cases hF
    exact go_thr hX "java/lang/UnsupportedOperationException" c_73 rfl (by decide) rfl (Nat.le_of_ble_eq_true rfl) hck hQ
theorem c_74 : mm_cd 74 = k_X5_take := rfl
def F_X5_take (h : mm_S) (x0 : Nat) (x1 : Int32) : Option ((Int32 ⊕ String) × mm_S) :=
  (fx_gR h x0 5 0).bind fun v1 =>
  (fx_is h v1 3).bind fun _ =>
  (F_X3_whyNotTake h v1 x1).bind fun v4 =>
  (fx_is h x0 5).bind fun _ =>
  (F_X5_isRefused h x0 v4).bind fun v7 =>
  if v7.1 = 0 then
    (fx_is v7.2 x0 5).bind fun _ =>
    (F_X5_remember v7.2 x0).bind fun v11 =>
    (fx_gR v11 x0 5 0).bind fun v13 =>
    (fx_is v11 v13 3).bind fun _ =>
    (F_X3_takeLanding v11 v13 x1).bind fun v16 =>
    some (.inl v16.1, v16.2)
  else
    some (.inr "java/lang/UnsupportedOperationException", v7.2)
theorem r_X5_take {X : mm_Cl} (hX : mm_mono X) {d c k : Nat} {Q : mm_Re → Prop} (hck : 1 ≤ c ∧ 6 ≤ k) {h : mm_S} {x0 : Nat} {x1 : Int32} {o : ((Int32 ⊕ String) × mm_S)} (hF : F_X5_take h x0 x1 = some o) (hQ : Q (fx_oI o.1, o.2)) : mm_Run X (d + 5) 74 c k [.ref x0, .int x1] h Q := by
  unfold F_X5_take at hF
  refine mm_Run_in (by decide) (by decide) (Nat.le_of_ble_eq_true rfl) ?_
  show mm_Ex (mm_Run X (d + 4)) 74 Q (0, [], [(0, .ref x0), (1, .int x1)], h) c k
  refine go_adv hX c_74 2 (F2 := (2, [.ref x0, .ref x0], [(0, .ref x0), (1, .int x1)], h)) rfl ?_
  obtain ⟨v1, e2, hF⟩ := mm_bind hF
  refine go_gR hX c_74 rfl e2 ?_
  refine go_adv hX c_74 1 (F2 := (6, [.int x1, .ref v1, .ref x0], [(0, .ref x0), (1, .int x1)], h)) rfl ?_
  obtain ⟨_, e3, hF⟩ := mm_bind hF
  obtain ⟨v4, e5, hF⟩ := mm_bind hF
  refine go_cV hX (As := [.int x1]) (rv := some (.long v4)) (h2 := h) (ci := 3) c_74 rfl (Nat.le_of_ble_eq_true rfl) rfl rfl e3 (by decide) (Nat.le_of_ble_eq_true rfl) (fun Q2 hQ2 => r_X3_whyNotTake hX (d := d) e5 hQ2) ?_
  obtain ⟨_, e6, hF⟩ := mm_bind hF
  obtain ⟨v7, e8, hF⟩ := mm_bind hF
  refine go_cV hX (As := [.long v4]) (rv := some (.int v7.1)) (h2 := v7.2) (ci := 5) c_74 rfl (Nat.le_of_ble_eq_true rfl) rfl rfl e6 (by decide) (Nat.le_of_ble_eq_true rfl) (fun Q2 hQ2 => r_X5_isRefused hX (d := (d + 3)) e8 hQ2) ?_
  rcases mm_ite hF with ⟨hc9, hF⟩ | ⟨hc9, hF⟩
  · refine go_zt hX 25 c_74 rfl rfl hc9 ?_
    refine go_adv hX c_74 1 (F2 := (26, [.ref x0], [(0, .ref x0), (1, .int x1)], v7.2)) rfl ?_
    obtain ⟨_, e10, hF⟩ := mm_bind hF
    obtain ⟨v11, e12, hF⟩ := mm_bind hF
    refine go_cV hX (As := []) (rv := none) (h2 := v11) (ci := 5) c_74 rfl (Nat.le_of_ble_eq_true rfl) rfl rfl e10 (by decide) (Nat.le_of_ble_eq_true rfl) (fun Q2 hQ2 => r_X5_remember hX (d := (d + 1)) e12 hQ2) ?_
    refine go_adv hX c_74 1 (F2 := (30, [.ref x0], [(0, .ref x0), (1, .int x1)], v11)) rfl ?_
    obtain ⟨v13, e14, hF⟩ := mm_bind hF
    refine go_gR hX c_74 rfl e14 ?_
    refine go_adv hX c_74 1 (F2 := (34, [.int x1, .ref v13], [(0, .ref x0), (1, .int x1)], v11)) rfl ?_
    obtain ⟨_, e15, hF⟩ := mm_bind hF
    obtain ⟨v16, e17, hF⟩ := mm_bind hF
    refine go_cV hX (As := [.int x1]) (rv := some (.int v16.1)) (h2 := v16.2) (ci := 3) c_74 rfl (Nat.le_of_ble_eq_true rfl) rfl rfl e15 (by decide) (Nat.le_of_ble_eq_true rfl) (fun Q2 hQ2 => r_X3_takeLanding hX (d := (d + 2)) e17 hQ2) ?_
    cases hF
    exact go_iret hX c_74 rfl rfl rfl hQ
  · refine go_zf hX c_74 rfl (by decide) hc9 ?_
    cases hF
    exact go_thr hX "java/lang/UnsupportedOperationException" c_74 rfl (by decide) rfl (Nat.le_of_ble_eq_true rfl) hck hQ
theorem c_75 : mm_cd 75 = k_X5_free := rfl
def F_X5_free (h : mm_S) (x0 : Nat) (x1 : Int32) (x2 : Int32) : Option ((Int32 ⊕ String) × mm_S) :=
  (fx_gR h x0 5 0).bind fun v1 =>
  (fx_is h v1 3).bind fun _ =>
  (F_X3_whyNotFree h v1 x1 x2).bind fun v4 =>
  (fx_is h x0 5).bind fun _ =>
  (F_X5_isRefused h x0 v4).bind fun v7 =>
  if v7.1 = 0 then
    (fx_is v7.2 x0 5).bind fun _ =>
    (F_X5_remember v7.2 x0).bind fun v11 =>
    (fx_gR v11 x0 5 0).bind fun v13 =>
    (fx_is v11 v13 3).bind fun _ =>
    (F_X3_freeLanding v11 v13 x1 x2).bind fun v16 =>
    some (.inl v16.1, v16.2)
  else
    some (.inr "java/lang/UnsupportedOperationException", v7.2)
theorem r_X5_free {X : mm_Cl} (hX : mm_mono X) {d c k : Nat} {Q : mm_Re → Prop} (hck : 1 ≤ c ∧ 6 ≤ k) {h : mm_S} {x0 : Nat} {x1 : Int32} {x2 : Int32} {o : ((Int32 ⊕ String) × mm_S)} (hF : F_X5_free h x0 x1 x2 = some o) (hQ : Q (fx_oI o.1, o.2)) : mm_Run X (d + 4) 75 c k [.ref x0, .int x1, .int x2] h Q := by
  unfold F_X5_free at hF
  refine mm_Run_in (by decide) (by decide) (Nat.le_of_ble_eq_true rfl) ?_
  show mm_Ex (mm_Run X (d + 3)) 75 Q (0, [], [(0, .ref x0), (1, .int x1), (2, .int x2)], h) c k
  refine go_adv hX c_75 2 (F2 := (2, [.ref x0, .ref x0], [(0, .ref x0), (1, .int x1), (2, .int x2)], h)) rfl ?_
  obtain ⟨v1, e2, hF⟩ := mm_bind hF
  refine go_gR hX c_75 rfl e2 ?_
  refine go_adv hX c_75 2 (F2 := (7, [.int x2, .int x1, .ref v1, .ref x0], [(0, .ref x0), (1, .int x1), (2, .int x2)], h)) rfl ?_
  obtain ⟨_, e3, hF⟩ := mm_bind hF
  obtain ⟨v4, e5, hF⟩ := mm_bind hF
  refine go_cV hX (As := [.int x1, .int x2]) (rv := some (.long v4)) (h2 := h) (ci := 3) c_75 rfl (Nat.le_of_ble_eq_true rfl) rfl rfl e3 (by decide) (Nat.le_of_ble_eq_true rfl) (fun Q2 hQ2 => r_X3_whyNotFree hX (d := d) e5 hQ2) ?_
  obtain ⟨_, e6, hF⟩ := mm_bind hF
  obtain ⟨v7, e8, hF⟩ := mm_bind hF
  refine go_cV hX (As := [.long v4]) (rv := some (.int v7.1)) (h2 := v7.2) (ci := 5) c_75 rfl (Nat.le_of_ble_eq_true rfl) rfl rfl e6 (by decide) (Nat.le_of_ble_eq_true rfl) (fun Q2 hQ2 => r_X5_isRefused hX (d := (d + 2)) e8 hQ2) ?_
  rcases mm_ite hF with ⟨hc9, hF⟩ | ⟨hc9, hF⟩
  · refine go_zt hX 26 c_75 rfl rfl hc9 ?_
    refine go_adv hX c_75 1 (F2 := (27, [.ref x0], [(0, .ref x0), (1, .int x1), (2, .int x2)], v7.2)) rfl ?_
    obtain ⟨_, e10, hF⟩ := mm_bind hF
    obtain ⟨v11, e12, hF⟩ := mm_bind hF
    refine go_cV hX (As := []) (rv := none) (h2 := v11) (ci := 5) c_75 rfl (Nat.le_of_ble_eq_true rfl) rfl rfl e10 (by decide) (Nat.le_of_ble_eq_true rfl) (fun Q2 hQ2 => r_X5_remember hX (d := d) e12 hQ2) ?_
    refine go_adv hX c_75 1 (F2 := (31, [.ref x0], [(0, .ref x0), (1, .int x1), (2, .int x2)], v11)) rfl ?_
    obtain ⟨v13, e14, hF⟩ := mm_bind hF
    refine go_gR hX c_75 rfl e14 ?_
    refine go_adv hX c_75 2 (F2 := (36, [.int x2, .int x1, .ref v13], [(0, .ref x0), (1, .int x1), (2, .int x2)], v11)) rfl ?_
    obtain ⟨_, e15, hF⟩ := mm_bind hF
    obtain ⟨v16, e17, hF⟩ := mm_bind hF
    refine go_cV hX (As := [.int x1, .int x2]) (rv := some (.int v16.1)) (h2 := v16.2) (ci := 3) c_75 rfl (Nat.le_of_ble_eq_true rfl) rfl rfl e15 (by decide) (Nat.le_of_ble_eq_true rfl) (fun Q2 hQ2 => r_X3_freeLanding hX (d := (d + 1)) e17 hQ2) ?_
    cases hF
    exact go_iret hX c_75 rfl rfl rfl hQ
  · refine go_zf hX c_75 rfl (by decide) hc9 ?_
    cases hF
    exact go_thr hX "java/lang/UnsupportedOperationException" c_75 rfl (by decide) rfl (Nat.le_of_ble_eq_true rfl) hck hQ
theorem c_76 : mm_cd 76 = k_X5_day := rfl
def F_X5_day (h : mm_S) (x0 : Nat) : Option (Int32 × mm_S) :=
  (fx_is h x0 5).bind fun _ =>
  (F_X5_remember h x0).bind fun v2 =>
  (fx_gR v2 x0 5 0).bind fun v4 =>
  (fx_is v2 v4 3).bind fun _ =>
  (F_X3_passDay v2 v4).bind fun v7 =>
  some (v7.1, v7.2)
theorem r_X5_day {X : mm_Cl} (hX : mm_mono X) {d c k : Nat} {Q : mm_Re → Prop} {h : mm_S} {x0 : Nat} {o : (Int32 × mm_S)} (hF : F_X5_day h x0 = some o) (hQ : Q (.inl (some (.int o.1)), o.2)) : mm_Run X (d + 6) 76 c k [.ref x0] h Q := by
  unfold F_X5_day at hF
  refine mm_Run_in (by decide) (by decide) (Nat.le_of_ble_eq_true rfl) ?_
  show mm_Ex (mm_Run X (d + 5)) 76 Q (0, [], [(0, .ref x0)], h) c k
  refine go_adv hX c_76 1 (F2 := (1, [.ref x0], [(0, .ref x0)], h)) rfl ?_
  obtain ⟨_, e1, hF⟩ := mm_bind hF
  obtain ⟨v2, e3, hF⟩ := mm_bind hF
  refine go_cV hX (As := []) (rv := none) (h2 := v2) (ci := 5) c_76 rfl (Nat.le_of_ble_eq_true rfl) rfl rfl e1 (by decide) (Nat.le_of_ble_eq_true rfl) (fun Q2 hQ2 => r_X5_remember hX (d := (d + 2)) e3 hQ2) ?_
  refine go_adv hX c_76 1 (F2 := (5, [.ref x0], [(0, .ref x0)], v2)) rfl ?_
  obtain ⟨v4, e5, hF⟩ := mm_bind hF
  refine go_gR hX c_76 rfl e5 ?_
  obtain ⟨_, e6, hF⟩ := mm_bind hF
  obtain ⟨v7, e8, hF⟩ := mm_bind hF
  refine go_cV hX (As := []) (rv := some (.int v7.1)) (h2 := v7.2) (ci := 3) c_76 rfl (Nat.le_of_ble_eq_true rfl) rfl rfl e6 (by decide) (Nat.le_of_ble_eq_true rfl) (fun Q2 hQ2 => r_X3_passDay hX (d := d) e8 hQ2) ?_
  cases hF
  exact go_iret hX c_76 rfl rfl rfl hQ
theorem c_77 : mm_cd 77 = k_X5_giantOf := rfl
def F_X5_giantOf (h : mm_S) (x0 : Nat) (x1 : Int32) (x2 : Int32) : Option (Int32 ⊕ String) :=
  (F_X5_isGiant h x1).bind fun v1 =>
  if v1 ≠ 0 then
    if x2 = nI 0 then
      (fx_gR h x0 5 0).bind fun v5 =>
      (fx_gR h v5 3 0).bind fun v7 =>
      (fx_aR h v7 x1).bind fun v9 =>
      (fx_gI h v9 0 0).bind fun v11 =>
      some (.inl v11)
    else if x2 = nI 1 then
      (fx_gR h x0 5 0).bind fun v14 =>
      (fx_gR h v14 3 0).bind fun v16 =>
      (fx_aR h v16 x1).bind fun v18 =>
      (fx_gI h v18 0 1).bind fun v20 =>
      some (.inl v20)
    else if x2 = nI 2 then
      (fx_gR h x0 5 0).bind fun v23 =>
      (fx_is h v23 3).bind fun _ =>
      (F_X3_landingsOf h v23 x1).bind fun v26 =>
      some (.inl v26)
    else if x2 = nI 3 then
      (fx_gR h x0 5 0).bind fun v29 =>
      (fx_gR h v29 3 0).bind fun v31 =>
      (fx_aR h v31 x1).bind fun v33 =>
      (fx_gI h v33 0 2).bind fun v35 =>
      some (.inl v35)
    else if x2 = nI 4 then
      (fx_gR h x0 5 0).bind fun v38 =>
      (fx_is h v38 3).bind fun _ =>
      (F_X3_leasesOf h v38 x1).bind fun v41 =>
      some (.inl v41)
    else if x2 = nI 5 then
      (fx_gR h x0 5 0).bind fun v44 =>
      (fx_gR h v44 3 0).bind fun v46 =>
      (fx_aR h v46 x1).bind fun v48 =>
      (fx_gI h v48 0 3).bind fun v50 =>
      some (.inl v50)
    else if x2 = nI 6 then
      (fx_gR h x0 5 0).bind fun v53 =>
      (fx_gR h v53 3 0).bind fun v55 =>
      (fx_aR h v55 x1).bind fun v57 =>
      (fx_gI h v57 0 4).bind fun v59 =>
      some (.inl v59)
    else
      some (.inr "java/lang/IllegalArgumentException")
  else
    some (.inr "java/lang/IndexOutOfBoundsException")
theorem r_X5_giantOf {X : mm_Cl} (hX : mm_mono X) {d c k : Nat} {Q : mm_Re → Prop} (hck : 1 ≤ c ∧ 6 ≤ k) {h : mm_S} {x0 : Nat} {x1 : Int32} {x2 : Int32} {o : (Int32 ⊕ String)} (hF : F_X5_giantOf h x0 x1 x2 = some o) (hQ : Q (fx_oI o, h)) : mm_Run X (d + 3) 77 c k [.ref x0, .int x1, .int x2] h Q := by
  unfold F_X5_giantOf at hF
  refine mm_Run_in (by decide) (by decide) (Nat.le_of_ble_eq_true rfl) ?_
  show mm_Ex (mm_Run X (d + 2)) 77 Q (0, [], [(0, .ref x0), (1, .int x1), (2, .int x2)], h) c k
  refine go_adv hX c_77 1 (F2 := (1, [.int x1], [(0, .ref x0), (1, .int x1), (2, .int x2)], h)) rfl ?_
  obtain ⟨v1, e2, hF⟩ := mm_bind hF
  refine go_cS hX (As := [.int x1]) (rv := some (.int v1)) (h2 := h) c_77 rfl (by decide) (Nat.le_of_ble_eq_true rfl) rfl rfl (Nat.le_of_ble_eq_true rfl) (fun Q2 hQ2 => r_X5_isGiant hX (d := d) e2 hQ2) ?_
  rcases mm_ite hF with ⟨hc3, hF⟩ | ⟨hc3, hF⟩
  · refine go_zt hX 17 c_77 rfl rfl hc3 ?_
    refine go_adv hX c_77 1 (F2 := (18, [.int x2], [(0, .ref x0), (1, .int x1), (2, .int x2)], h)) rfl ?_
    rcases mm_ite hF with ⟨hc4, hF⟩ | ⟨hc4, hF⟩
    · refine go_sw hX 60 c_77 rfl hc4 (by decide) (by decide +kernel) ?_
      refine go_adv hX c_77 1 (F2 := (61, [.ref x0], [(0, .ref x0), (1, .int x1), (2, .int x2)], h)) rfl ?_
      obtain ⟨v5, e6, hF⟩ := mm_bind hF
      refine go_gR hX c_77 rfl e6 ?_
      obtain ⟨v7, e8, hF⟩ := mm_bind hF
      refine go_gR hX c_77 rfl e8 ?_
      refine go_adv hX c_77 1 (F2 := (68, [.int x1, .ref v7], [(0, .ref x0), (1, .int x1), (2, .int x2)], h)) rfl ?_
      obtain ⟨v9, e10, hF⟩ := mm_bind hF
      refine go_aR hX c_77 rfl e10 ?_
      obtain ⟨v11, e12, hF⟩ := mm_bind hF
      refine go_gI hX c_77 rfl e12 ?_
      cases hF
      exact go_iret hX c_77 rfl rfl rfl hQ
    rcases mm_ite hF with ⟨hc13, hF⟩ | ⟨hc13, hF⟩
    · refine go_sw hX 73 c_77 rfl hc13 (by decide) (by decide +kernel) ?_
      refine go_adv hX c_77 1 (F2 := (74, [.ref x0], [(0, .ref x0), (1, .int x1), (2, .int x2)], h)) rfl ?_
      obtain ⟨v14, e15, hF⟩ := mm_bind hF
      refine go_gR hX c_77 rfl e15 ?_
      obtain ⟨v16, e17, hF⟩ := mm_bind hF
      refine go_gR hX c_77 rfl e17 ?_
      refine go_adv hX c_77 1 (F2 := (81, [.int x1, .ref v16], [(0, .ref x0), (1, .int x1), (2, .int x2)], h)) rfl ?_
      obtain ⟨v18, e19, hF⟩ := mm_bind hF
      refine go_aR hX c_77 rfl e19 ?_
      obtain ⟨v20, e21, hF⟩ := mm_bind hF
      refine go_gI hX c_77 rfl e21 ?_
      cases hF
      exact go_iret hX c_77 rfl rfl rfl hQ
    rcases mm_ite hF with ⟨hc22, hF⟩ | ⟨hc22, hF⟩
    · refine go_sw hX 86 c_77 rfl hc22 (by decide) (by decide +kernel) ?_
      refine go_adv hX c_77 1 (F2 := (87, [.ref x0], [(0, .ref x0), (1, .int x1), (2, .int x2)], h)) rfl ?_
      obtain ⟨v23, e24, hF⟩ := mm_bind hF
      refine go_gR hX c_77 rfl e24 ?_
      refine go_adv hX c_77 1 (F2 := (91, [.int x1, .ref v23], [(0, .ref x0), (1, .int x1), (2, .int x2)], h)) rfl ?_
      obtain ⟨_, e25, hF⟩ := mm_bind hF
      obtain ⟨v26, e27, hF⟩ := mm_bind hF
      refine go_cV hX (As := [.int x1]) (rv := some (.int v26)) (h2 := h) (ci := 3) c_77 rfl (Nat.le_of_ble_eq_true rfl) rfl rfl e25 (by decide) (Nat.le_of_ble_eq_true rfl) (fun Q2 hQ2 => r_X3_landingsOf hX (d := (d + 1)) e27 hQ2) ?_
      cases hF
      exact go_iret hX c_77 rfl rfl rfl hQ
    rcases mm_ite hF with ⟨hc28, hF⟩ | ⟨hc28, hF⟩
    · refine go_sw hX 95 c_77 rfl hc28 (by decide) (by decide +kernel) ?_
      refine go_adv hX c_77 1 (F2 := (96, [.ref x0], [(0, .ref x0), (1, .int x1), (2, .int x2)], h)) rfl ?_
      obtain ⟨v29, e30, hF⟩ := mm_bind hF
      refine go_gR hX c_77 rfl e30 ?_
      obtain ⟨v31, e32, hF⟩ := mm_bind hF
      refine go_gR hX c_77 rfl e32 ?_
      refine go_adv hX c_77 1 (F2 := (103, [.int x1, .ref v31], [(0, .ref x0), (1, .int x1), (2, .int x2)], h)) rfl ?_
      obtain ⟨v33, e34, hF⟩ := mm_bind hF
      refine go_aR hX c_77 rfl e34 ?_
      obtain ⟨v35, e36, hF⟩ := mm_bind hF
      refine go_gI hX c_77 rfl e36 ?_
      cases hF
      exact go_iret hX c_77 rfl rfl rfl hQ
    rcases mm_ite hF with ⟨hc37, hF⟩ | ⟨hc37, hF⟩
    · refine go_sw hX 108 c_77 rfl hc37 (by decide) (by decide +kernel) ?_
      refine go_adv hX c_77 1 (F2 := (109, [.ref x0], [(0, .ref x0), (1, .int x1), (2, .int x2)], h)) rfl ?_
      obtain ⟨v38, e39, hF⟩ := mm_bind hF
      refine go_gR hX c_77 rfl e39 ?_
      refine go_adv hX c_77 1 (F2 := (113, [.int x1, .ref v38], [(0, .ref x0), (1, .int x1), (2, .int x2)], h)) rfl ?_
      obtain ⟨_, e40, hF⟩ := mm_bind hF
      obtain ⟨v41, e42, hF⟩ := mm_bind hF
      refine go_cV hX (As := [.int x1]) (rv := some (.int v41)) (h2 := h) (ci := 3) c_77 rfl (Nat.le_of_ble_eq_true rfl) rfl rfl e40 (by decide) (Nat.le_of_ble_eq_true rfl) (fun Q2 hQ2 => r_X3_leasesOf hX (d := (d + 1)) e42 hQ2) ?_
      cases hF
      exact go_iret hX c_77 rfl rfl rfl hQ
    rcases mm_ite hF with ⟨hc43, hF⟩ | ⟨hc43, hF⟩
    · refine go_sw hX 117 c_77 rfl hc43 (by decide) (by decide +kernel) ?_
      refine go_adv hX c_77 1 (F2 := (118, [.ref x0], [(0, .ref x0), (1, .int x1), (2, .int x2)], h)) rfl ?_
      obtain ⟨v44, e45, hF⟩ := mm_bind hF
      refine go_gR hX c_77 rfl e45 ?_
      obtain ⟨v46, e47, hF⟩ := mm_bind hF
      refine go_gR hX c_77 rfl e47 ?_
      refine go_adv hX c_77 1 (F2 := (125, [.int x1, .ref v46], [(0, .ref x0), (1, .int x1), (2, .int x2)], h)) rfl ?_
      obtain ⟨v48, e49, hF⟩ := mm_bind hF
      refine go_aR hX c_77 rfl e49 ?_
      obtain ⟨v50, e51, hF⟩ := mm_bind hF
      refine go_gI hX c_77 rfl e51 ?_
      cases hF
      exact go_iret hX c_77 rfl rfl rfl hQ
    rcases mm_ite hF with ⟨hc52, hF⟩ | ⟨hc52, hF⟩
    · refine go_sw hX 130 c_77 rfl hc52 (by decide) (by decide +kernel) ?_
      refine go_adv hX c_77 1 (F2 := (131, [.ref x0], [(0, .ref x0), (1, .int x1), (2, .int x2)], h)) rfl ?_
      obtain ⟨v53, e54, hF⟩ := mm_bind hF
      refine go_gR hX c_77 rfl e54 ?_
      obtain ⟨v55, e56, hF⟩ := mm_bind hF
      refine go_gR hX c_77 rfl e56 ?_
      refine go_adv hX c_77 1 (F2 := (138, [.int x1, .ref v55], [(0, .ref x0), (1, .int x1), (2, .int x2)], h)) rfl ?_
      obtain ⟨v57, e58, hF⟩ := mm_bind hF
      refine go_aR hX c_77 rfl e58 ?_
      obtain ⟨v59, e60, hF⟩ := mm_bind hF
      refine go_gI hX c_77 rfl e60 ?_
      cases hF
      exact go_iret hX c_77 rfl rfl rfl hQ
    refine go_swd hX 7 143 c_77 rfl (by decide) rfl (by decide) (fun i hi => match i, hi with | 0, _ => hc4 | 1, _ => hc13 | 2, _ => hc22 | 3, _ => hc28 | 4, _ => hc37 | 5, _ => hc43 | 6, _ => hc52 | j + 7, hj => absurd hj (by omega)) (by decide) ?_
    cases hF
    exact go_thr hX "java/lang/IllegalArgumentException" c_77 rfl (by decide) rfl (Nat.le_of_ble_eq_true rfl) hck hQ
  · refine go_zf hX c_77 rfl (by decide) hc3 ?_
    cases hF
    exact go_thr hX "java/lang/IndexOutOfBoundsException" c_77 rfl (by decide) rfl (Nat.le_of_ble_eq_true rfl) hck hQ
theorem c_258 : mm_cd 258 = k_J6_bitCount_0f7a4 := rfl
def F_J6_bitCount_0f7a4 (h : mm_S) (x0 : Int32) : Option Int32 :=
  some ((((((((x0 - (((x0.toUInt32 >>> ((ki 1).toUInt32 &&& Int32.toUInt32 31)).toInt32) &&& (nI 1431655765))) &&& (nI 858993459)) + ((((x0 - (((x0.toUInt32 >>> ((ki 1).toUInt32 &&& Int32.toUInt32 31)).toInt32) &&& (nI 1431655765))).toUInt32 >>> ((ki 2).toUInt32 &&& Int32.toUInt32 31)).toInt32) &&& (nI 858993459))) + (((((x0 - (((x0.toUInt32 >>> ((ki 1).toUInt32 &&& Int32.toUInt32 31)).toInt32) &&& (nI 1431655765))) &&& (nI 858993459)) + ((((x0 - (((x0.toUInt32 >>> ((ki 1).toUInt32 &&& Int32.toUInt32 31)).toInt32) &&& (nI 1431655765))).toUInt32 >>> ((ki 2).toUInt32 &&& Int32.toUInt32 31)).toInt32) &&& (nI 858993459))).toUInt32 >>> ((ki 4).toUInt32 &&& Int32.toUInt32 31)).toInt32)) &&& (nI 252645135)) + (((((((x0 - (((x0.toUInt32 >>> ((ki 1).toUInt32 &&& Int32.toUInt32 31)).toInt32) &&& (nI 1431655765))) &&& (nI 858993459)) + ((((x0 - (((x0.toUInt32 >>> ((ki 1).toUInt32 &&& Int32.toUInt32 31)).toInt32) &&& (nI 1431655765))).toUInt32 >>> ((ki 2).toUInt32 &&& Int32.toUInt32 31)).toInt32) &&& (nI 858993459))) + (((((x0 - (((x0.toUInt32 >>> ((ki 1).toUInt32 &&& Int32.toUInt32 31)).toInt32) &&& (nI 1431655765))) &&& (nI 858993459)) + ((((x0 - (((x0.toUInt32 >>> ((ki 1).toUInt32 &&& Int32.toUInt32 31)).toInt32) &&& (nI 1431655765))).toUInt32 >>> ((ki 2).toUInt32 &&& Int32.toUInt32 31)).toInt32) &&& (nI 858993459))).toUInt32 >>> ((ki 4).toUInt32 &&& Int32.toUInt32 31)).toInt32)) &&& (nI 252645135)).toUInt32 >>> ((kb 8).toUInt32 &&& Int32.toUInt32 31)).toInt32)) + ((((((((x0 - (((x0.toUInt32 >>> ((ki 1).toUInt32 &&& Int32.toUInt32 31)).toInt32) &&& (nI 1431655765))) &&& (nI 858993459)) + ((((x0 - (((x0.toUInt32 >>> ((ki 1).toUInt32 &&& Int32.toUInt32 31)).toInt32) &&& (nI 1431655765))).toUInt32 >>> ((ki 2).toUInt32 &&& Int32.toUInt32 31)).toInt32) &&& (nI 858993459))) + (((((x0 - (((x0.toUInt32 >>> ((ki 1).toUInt32 &&& Int32.toUInt32 31)).toInt32) &&& (nI 1431655765))) &&& (nI 858993459)) + ((((x0 - (((x0.toUInt32 >>> ((ki 1).toUInt32 &&& Int32.toUInt32 31)).toInt32) &&& (nI 1431655765))).toUInt32 >>> ((ki 2).toUInt32 &&& Int32.toUInt32 31)).toInt32) &&& (nI 858993459))).toUInt32 >>> ((ki 4).toUInt32 &&& Int32.toUInt32 31)).toInt32)) &&& (nI 252645135)) + (((((((x0 - (((x0.toUInt32 >>> ((ki 1).toUInt32 &&& Int32.toUInt32 31)).toInt32) &&& (nI 1431655765))) &&& (nI 858993459)) + ((((x0 - (((x0.toUInt32 >>> ((ki 1).toUInt32 &&& Int32.toUInt32 31)).toInt32) &&& (nI 1431655765))).toUInt32 >>> ((ki 2).toUInt32 &&& Int32.toUInt32 31)).toInt32) &&& (nI 858993459))) + (((((x0 - (((x0.toUInt32 >>> ((ki 1).toUInt32 &&& Int32.toUInt32 31)).toInt32) &&& (nI 1431655765))) &&& (nI 858993459)) + ((((x0 - (((x0.toUInt32 >>> ((ki 1).toUInt32 &&& Int32.toUInt32 31)).toInt32) &&& (nI 1431655765))).toUInt32 >>> ((ki 2).toUInt32 &&& Int32.toUInt32 31)).toInt32) &&& (nI 858993459))).toUInt32 >>> ((ki 4).toUInt32 &&& Int32.toUInt32 31)).toInt32)) &&& (nI 252645135)).toUInt32 >>> ((kb 8).toUInt32 &&& Int32.toUInt32 31)).toInt32)).toUInt32 >>> ((kb 16).toUInt32 &&& Int32.toUInt32 31)).toInt32)) &&& (kb 63))
theorem r_J6_bitCount_0f7a4 {X : mm_Cl} (hX : mm_mono X) {d c k : Nat} {Q : mm_Re → Prop} {h : mm_S} {x0 : Int32} {o : Int32} (hF : F_J6_bitCount_0f7a4 h x0 = some o) (hQ : Q (.inl (some (.int o)), h)) : mm_Run X (d + 1) 258 c k [.int x0] h Q := by
  unfold F_J6_bitCount_0f7a4 at hF
  refine mm_Run_in (by decide) (by decide) (Nat.le_of_ble_eq_true rfl) ?_
  show mm_Ex (mm_Run X d) 258 Q (0, [], [(0, .int x0)], h) c k
  refine go_adv hX c_258 41 (F2 := (52, [.int ((((((((x0 - (((x0.toUInt32 >>> ((ki 1).toUInt32 &&& Int32.toUInt32 31)).toInt32) &&& (nI 1431655765))) &&& (nI 858993459)) + ((((x0 - (((x0.toUInt32 >>> ((ki 1).toUInt32 &&& Int32.toUInt32 31)).toInt32) &&& (nI 1431655765))).toUInt32 >>> ((ki 2).toUInt32 &&& Int32.toUInt32 31)).toInt32) &&& (nI 858993459))) + (((((x0 - (((x0.toUInt32 >>> ((ki 1).toUInt32 &&& Int32.toUInt32 31)).toInt32) &&& (nI 1431655765))) &&& (nI 858993459)) + ((((x0 - (((x0.toUInt32 >>> ((ki 1).toUInt32 &&& Int32.toUInt32 31)).toInt32) &&& (nI 1431655765))).toUInt32 >>> ((ki 2).toUInt32 &&& Int32.toUInt32 31)).toInt32) &&& (nI 858993459))).toUInt32 >>> ((ki 4).toUInt32 &&& Int32.toUInt32 31)).toInt32)) &&& (nI 252645135)) + (((((((x0 - (((x0.toUInt32 >>> ((ki 1).toUInt32 &&& Int32.toUInt32 31)).toInt32) &&& (nI 1431655765))) &&& (nI 858993459)) + ((((x0 - (((x0.toUInt32 >>> ((ki 1).toUInt32 &&& Int32.toUInt32 31)).toInt32) &&& (nI 1431655765))).toUInt32 >>> ((ki 2).toUInt32 &&& Int32.toUInt32 31)).toInt32) &&& (nI 858993459))) + (((((x0 - (((x0.toUInt32 >>> ((ki 1).toUInt32 &&& Int32.toUInt32 31)).toInt32) &&& (nI 1431655765))) &&& (nI 858993459)) + ((((x0 - (((x0.toUInt32 >>> ((ki 1).toUInt32 &&& Int32.toUInt32 31)).toInt32) &&& (nI 1431655765))).toUInt32 >>> ((ki 2).toUInt32 &&& Int32.toUInt32 31)).toInt32) &&& (nI 858993459))).toUInt32 >>> ((ki 4).toUInt32 &&& Int32.toUInt32 31)).toInt32)) &&& (nI 252645135)).toUInt32 >>> ((kb 8).toUInt32 &&& Int32.toUInt32 31)).toInt32)) + ((((((((x0 - (((x0.toUInt32 >>> ((ki 1).toUInt32 &&& Int32.toUInt32 31)).toInt32) &&& (nI 1431655765))) &&& (nI 858993459)) + ((((x0 - (((x0.toUInt32 >>> ((ki 1).toUInt32 &&& Int32.toUInt32 31)).toInt32) &&& (nI 1431655765))).toUInt32 >>> ((ki 2).toUInt32 &&& Int32.toUInt32 31)).toInt32) &&& (nI 858993459))) + (((((x0 - (((x0.toUInt32 >>> ((ki 1).toUInt32 &&& Int32.toUInt32 31)).toInt32) &&& (nI 1431655765))) &&& (nI 858993459)) + ((((x0 - (((x0.toUInt32 >>> ((ki 1).toUInt32 &&& Int32.toUInt32 31)).toInt32) &&& (nI 1431655765))).toUInt32 >>> ((ki 2).toUInt32 &&& Int32.toUInt32 31)).toInt32) &&& (nI 858993459))).toUInt32 >>> ((ki 4).toUInt32 &&& Int32.toUInt32 31)).toInt32)) &&& (nI 252645135)) + (((((((x0 - (((x0.toUInt32 >>> ((ki 1).toUInt32 &&& Int32.toUInt32 31)).toInt32) &&& (nI 1431655765))) &&& (nI 858993459)) + ((((x0 - (((x0.toUInt32 >>> ((ki 1).toUInt32 &&& Int32.toUInt32 31)).toInt32) &&& (nI 1431655765))).toUInt32 >>> ((ki 2).toUInt32 &&& Int32.toUInt32 31)).toInt32) &&& (nI 858993459))) + (((((x0 - (((x0.toUInt32 >>> ((ki 1).toUInt32 &&& Int32.toUInt32 31)).toInt32) &&& (nI 1431655765))) &&& (nI 858993459)) + ((((x0 - (((x0.toUInt32 >>> ((ki 1).toUInt32 &&& Int32.toUInt32 31)).toInt32) &&& (nI 1431655765))).toUInt32 >>> ((ki 2).toUInt32 &&& Int32.toUInt32 31)).toInt32) &&& (nI 858993459))).toUInt32 >>> ((ki 4).toUInt32 &&& Int32.toUInt32 31)).toInt32)) &&& (nI 252645135)).toUInt32 >>> ((kb 8).toUInt32 &&& Int32.toUInt32 31)).toInt32)).toUInt32 >>> ((kb 16).toUInt32 &&& Int32.toUInt32 31)).toInt32)) &&& (kb 63))], [(0, .int (((((((x0 - (((x0.toUInt32 >>> ((ki 1).toUInt32 &&& Int32.toUInt32 31)).toInt32) &&& (nI 1431655765))) &&& (nI 858993459)) + ((((x0 - (((x0.toUInt32 >>> ((ki 1).toUInt32 &&& Int32.toUInt32 31)).toInt32) &&& (nI 1431655765))).toUInt32 >>> ((ki 2).toUInt32 &&& Int32.toUInt32 31)).toInt32) &&& (nI 858993459))) + (((((x0 - (((x0.toUInt32 >>> ((ki 1).toUInt32 &&& Int32.toUInt32 31)).toInt32) &&& (nI 1431655765))) &&& (nI 858993459)) + ((((x0 - (((x0.toUInt32 >>> ((ki 1).toUInt32 &&& Int32.toUInt32 31)).toInt32) &&& (nI 1431655765))).toUInt32 >>> ((ki 2).toUInt32 &&& Int32.toUInt32 31)).toInt32) &&& (nI 858993459))).toUInt32 >>> ((ki 4).toUInt32 &&& Int32.toUInt32 31)).toInt32)) &&& (nI 252645135)) + (((((((x0 - (((x0.toUInt32 >>> ((ki 1).toUInt32 &&& Int32.toUInt32 31)).toInt32) &&& (nI 1431655765))) &&& (nI 858993459)) + ((((x0 - (((x0.toUInt32 >>> ((ki 1).toUInt32 &&& Int32.toUInt32 31)).toInt32) &&& (nI 1431655765))).toUInt32 >>> ((ki 2).toUInt32 &&& Int32.toUInt32 31)).toInt32) &&& (nI 858993459))) + (((((x0 - (((x0.toUInt32 >>> ((ki 1).toUInt32 &&& Int32.toUInt32 31)).toInt32) &&& (nI 1431655765))) &&& (nI 858993459)) + ((((x0 - (((x0.toUInt32 >>> ((ki 1).toUInt32 &&& Int32.toUInt32 31)).toInt32) &&& (nI 1431655765))).toUInt32 >>> ((ki 2).toUInt32 &&& Int32.toUInt32 31)).toInt32) &&& (nI 858993459))).toUInt32 >>> ((ki 4).toUInt32 &&& Int32.toUInt32 31)).toInt32)) &&& (nI 252645135)).toUInt32 >>> ((kb 8).toUInt32 &&& Int32.toUInt32 31)).toInt32)) + ((((((((x0 - (((x0.toUInt32 >>> ((ki 1).toUInt32 &&& Int32.toUInt32 31)).toInt32) &&& (nI 1431655765))) &&& (nI 858993459)) + ((((x0 - (((x0.toUInt32 >>> ((ki 1).toUInt32 &&& Int32.toUInt32 31)).toInt32) &&& (nI 1431655765))).toUInt32 >>> ((ki 2).toUInt32 &&& Int32.toUInt32 31)).toInt32) &&& (nI 858993459))) + (((((x0 - (((x0.toUInt32 >>> ((ki 1).toUInt32 &&& Int32.toUInt32 31)).toInt32) &&& (nI 1431655765))) &&& (nI 858993459)) + ((((x0 - (((x0.toUInt32 >>> ((ki 1).toUInt32 &&& Int32.toUInt32 31)).toInt32) &&& (nI 1431655765))).toUInt32 >>> ((ki 2).toUInt32 &&& Int32.toUInt32 31)).toInt32) &&& (nI 858993459))).toUInt32 >>> ((ki 4).toUInt32 &&& Int32.toUInt32 31)).toInt32)) &&& (nI 252645135)) + (((((((x0 - (((x0.toUInt32 >>> ((ki 1).toUInt32 &&& Int32.toUInt32 31)).toInt32) &&& (nI 1431655765))) &&& (nI 858993459)) + ((((x0 - (((x0.toUInt32 >>> ((ki 1).toUInt32 &&& Int32.toUInt32 31)).toInt32) &&& (nI 1431655765))).toUInt32 >>> ((ki 2).toUInt32 &&& Int32.toUInt32 31)).toInt32) &&& (nI 858993459))) + (((((x0 - (((x0.toUInt32 >>> ((ki 1).toUInt32 &&& Int32.toUInt32 31)).toInt32) &&& (nI 1431655765))) &&& (nI 858993459)) + ((((x0 - (((x0.toUInt32 >>> ((ki 1).toUInt32 &&& Int32.toUInt32 31)).toInt32) &&& (nI 1431655765))).toUInt32 >>> ((ki 2).toUInt32 &&& Int32.toUInt32 31)).toInt32) &&& (nI 858993459))).toUInt32 >>> ((ki 4).toUInt32 &&& Int32.toUInt32 31)).toInt32)) &&& (nI 252645135)).toUInt32 >>> ((kb 8).toUInt32 &&& Int32.toUInt32 31)).toInt32)).toUInt32 >>> ((kb 16).toUInt32 &&& Int32.toUInt32 31)).toInt32)))], h)) rfl ?_
  cases hF
  exact go_iret hX c_258 rfl rfl rfl hQ
theorem c_78 : mm_cd 78 = k_X5_landingOf := rfl
def F_X5_landingOf (h : mm_S) (x0 : Nat) (x1 : Int32) (x2 : Int32) : Option (Int32 ⊕ String) :=
  (F_X5_isLanding h x1).bind fun v1 =>
  if v1 ≠ 0 then
    if x2 = nI 0 then
      (fx_gR h x0 5 0).bind fun v5 =>
      (fx_gR h v5 3 1).bind fun v7 =>
      (fx_aI h v7 x1).bind fun v9 =>
      some (.inl v9)
    else if x2 = nI 1 then
      (fx_gR h x0 5 0).bind fun v12 =>
      (fx_is h v12 3).bind fun _ =>
      (F_X3_joinedWith h v12 x1).bind fun v15 =>
      (F_J6_bitCount_0f7a4 h v15).bind fun v17 =>
      some (.inl v17)
    else if x2 = nI 2 then
      (fx_gR h x0 5 0).bind fun v20 =>
      (fx_is h v20 3).bind fun _ =>
      (F_X3_whoStandsOn h v20 x1).bind fun v23 =>
      some (.inl v23)
    else if x2 = nI 3 then
      (fx_gR h x0 5 0).bind fun v26 =>
      (fx_is h v26 3).bind fun _ =>
      (F_X3_joinedWith h v26 x1).bind fun v29 =>
      some (.inl v29)
    else
      some (.inr "java/lang/IllegalArgumentException")
  else
    some (.inr "java/lang/IndexOutOfBoundsException")
theorem r_X5_landingOf {X : mm_Cl} (hX : mm_mono X) {d c k : Nat} {Q : mm_Re → Prop} (hck : 1 ≤ c ∧ 6 ≤ k) {h : mm_S} {x0 : Nat} {x1 : Int32} {x2 : Int32} {o : (Int32 ⊕ String)} (hF : F_X5_landingOf h x0 x1 x2 = some o) (hQ : Q (fx_oI o, h)) : mm_Run X (d + 3) 78 c k [.ref x0, .int x1, .int x2] h Q := by
  unfold F_X5_landingOf at hF
  refine mm_Run_in (by decide) (by decide) (Nat.le_of_ble_eq_true rfl) ?_
  show mm_Ex (mm_Run X (d + 2)) 78 Q (0, [], [(0, .ref x0), (1, .int x1), (2, .int x2)], h) c k
  refine go_adv hX c_78 1 (F2 := (1, [.int x1], [(0, .ref x0), (1, .int x1), (2, .int x2)], h)) rfl ?_
  obtain ⟨v1, e2, hF⟩ := mm_bind hF
  refine go_cS hX (As := [.int x1]) (rv := some (.int v1)) (h2 := h) c_78 rfl (by decide) (Nat.le_of_ble_eq_true rfl) rfl rfl (Nat.le_of_ble_eq_true rfl) (fun Q2 hQ2 => r_X5_isLanding hX (d := d) e2 hQ2) ?_
  rcases mm_ite hF with ⟨hc3, hF⟩ | ⟨hc3, hF⟩
  · refine go_zt hX 17 c_78 rfl rfl hc3 ?_
    refine go_adv hX c_78 1 (F2 := (18, [.int x2], [(0, .ref x0), (1, .int x1), (2, .int x2)], h)) rfl ?_
    rcases mm_ite hF with ⟨hc4, hF⟩ | ⟨hc4, hF⟩
    · refine go_sw hX 48 c_78 rfl hc4 (by decide) (by decide +kernel) ?_
      refine go_adv hX c_78 1 (F2 := (49, [.ref x0], [(0, .ref x0), (1, .int x1), (2, .int x2)], h)) rfl ?_
      obtain ⟨v5, e6, hF⟩ := mm_bind hF
      refine go_gR hX c_78 rfl e6 ?_
      obtain ⟨v7, e8, hF⟩ := mm_bind hF
      refine go_gR hX c_78 rfl e8 ?_
      refine go_adv hX c_78 1 (F2 := (56, [.int x1, .ref v7], [(0, .ref x0), (1, .int x1), (2, .int x2)], h)) rfl ?_
      obtain ⟨v9, e10, hF⟩ := mm_bind hF
      refine go_aI hX c_78 rfl e10 ?_
      cases hF
      exact go_iret hX c_78 rfl rfl rfl hQ
    rcases mm_ite hF with ⟨hc11, hF⟩ | ⟨hc11, hF⟩
    · refine go_sw hX 58 c_78 rfl hc11 (by decide) (by decide +kernel) ?_
      refine go_adv hX c_78 1 (F2 := (59, [.ref x0], [(0, .ref x0), (1, .int x1), (2, .int x2)], h)) rfl ?_
      obtain ⟨v12, e13, hF⟩ := mm_bind hF
      refine go_gR hX c_78 rfl e13 ?_
      refine go_adv hX c_78 1 (F2 := (63, [.int x1, .ref v12], [(0, .ref x0), (1, .int x1), (2, .int x2)], h)) rfl ?_
      obtain ⟨_, e14, hF⟩ := mm_bind hF
      obtain ⟨v15, e16, hF⟩ := mm_bind hF
      refine go_cV hX (As := [.int x1]) (rv := some (.int v15)) (h2 := h) (ci := 3) c_78 rfl (Nat.le_of_ble_eq_true rfl) rfl rfl e14 (by decide) (Nat.le_of_ble_eq_true rfl) (fun Q2 hQ2 => r_X3_joinedWith hX (d := d) e16 hQ2) ?_
      obtain ⟨v17, e18, hF⟩ := mm_bind hF
      refine go_cS hX (As := [.int v15]) (rv := some (.int v17)) (h2 := h) c_78 rfl (by decide) (Nat.le_of_ble_eq_true rfl) rfl rfl (Nat.le_of_ble_eq_true rfl) (fun Q2 hQ2 => r_J6_bitCount_0f7a4 hX (d := (d + 1)) e18 hQ2) ?_
      cases hF
      exact go_iret hX c_78 rfl rfl rfl hQ
    rcases mm_ite hF with ⟨hc19, hF⟩ | ⟨hc19, hF⟩
    · refine go_sw hX 70 c_78 rfl hc19 (by decide) (by decide +kernel) ?_
      refine go_adv hX c_78 1 (F2 := (71, [.ref x0], [(0, .ref x0), (1, .int x1), (2, .int x2)], h)) rfl ?_
      obtain ⟨v20, e21, hF⟩ := mm_bind hF
      refine go_gR hX c_78 rfl e21 ?_
      refine go_adv hX c_78 1 (F2 := (75, [.int x1, .ref v20], [(0, .ref x0), (1, .int x1), (2, .int x2)], h)) rfl ?_
      obtain ⟨_, e22, hF⟩ := mm_bind hF
      obtain ⟨v23, e24, hF⟩ := mm_bind hF
      refine go_cV hX (As := [.int x1]) (rv := some (.int v23)) (h2 := h) (ci := 3) c_78 rfl (Nat.le_of_ble_eq_true rfl) rfl rfl e22 (by decide) (Nat.le_of_ble_eq_true rfl) (fun Q2 hQ2 => r_X3_whoStandsOn hX (d := (d + 1)) e24 hQ2) ?_
      cases hF
      exact go_iret hX c_78 rfl rfl rfl hQ
    rcases mm_ite hF with ⟨hc25, hF⟩ | ⟨hc25, hF⟩
    · refine go_sw hX 79 c_78 rfl hc25 (by decide) (by decide +kernel) ?_
      refine go_adv hX c_78 1 (F2 := (80, [.ref x0], [(0, .ref x0), (1, .int x1), (2, .int x2)], h)) rfl ?_
      obtain ⟨v26, e27, hF⟩ := mm_bind hF
      refine go_gR hX c_78 rfl e27 ?_
      refine go_adv hX c_78 1 (F2 := (84, [.int x1, .ref v26], [(0, .ref x0), (1, .int x1), (2, .int x2)], h)) rfl ?_
      obtain ⟨_, e28, hF⟩ := mm_bind hF
      obtain ⟨v29, e30, hF⟩ := mm_bind hF
      refine go_cV hX (As := [.int x1]) (rv := some (.int v29)) (h2 := h) (ci := 3) c_78 rfl (Nat.le_of_ble_eq_true rfl) rfl rfl e28 (by decide) (Nat.le_of_ble_eq_true rfl) (fun Q2 hQ2 => r_X3_joinedWith hX (d := d) e30 hQ2) ?_
      cases hF
      exact go_iret hX c_78 rfl rfl rfl hQ
    refine go_swd hX 4 88 c_78 rfl (by decide) rfl (by decide) (fun i hi => match i, hi with | 0, _ => hc4 | 1, _ => hc11 | 2, _ => hc19 | 3, _ => hc25 | j + 4, hj => absurd hj (by omega)) (by decide) ?_
    cases hF
    exact go_thr hX "java/lang/IllegalArgumentException" c_78 rfl (by decide) rfl (Nat.le_of_ble_eq_true rfl) hck hQ
  · refine go_zf hX c_78 rfl (by decide) hc3 ?_
    cases hF
    exact go_thr hX "java/lang/IndexOutOfBoundsException" c_78 rfl (by decide) rfl (Nat.le_of_ble_eq_true rfl) hck hQ
theorem c_79 : mm_cd 79 = k_X5_stairOf := rfl
def F_X5_stairOf (h : mm_S) (x0 : Nat) (x1 : Int32) (x2 : Int32) : Option (Int32 ⊕ String) :=
  (fx_gR h x0 5 0).bind fun v1 =>
  (fx_is h v1 3).bind fun _ =>
  (F_X3_isStair h v1 x1).bind fun v4 =>
  if v4 ≠ 0 then
    (fx_gR h x0 5 0).bind fun v7 =>
    (fx_gR h v7 3 2).bind fun v9 =>
    (fx_aR h v9 x1).bind fun v11 =>
    if x2 = nI 0 then
      (fx_gI h v11 2 0).bind fun v14 =>
      some (.inl v14)
    else if x2 = nI 1 then
      (fx_gI h v11 2 1).bind fun v17 =>
      some (.inl v17)
    else if x2 = nI 2 then
      (fx_gI h v11 2 2).bind fun v20 =>
      some (.inl v20)
    else if x2 = nI 3 then
      (fx_gI h v11 2 3).bind fun v23 =>
      some (.inl v23)
    else if x2 = nI 4 then
      (fx_gI h v11 2 4).bind fun v26 =>
      some (.inl v26)
    else if x2 = nI 5 then
      (fx_gI h v11 2 5).bind fun v29 =>
      some (.inl v29)
    else if x2 = nI 6 then
      (fx_gI h v11 2 6).bind fun v32 =>
      some (.inl v32)
    else if x2 = nI 7 then
      (fx_is h v11 2).bind fun _ =>
      (F_X2_rent h v11).bind fun v36 =>
      some (.inl v36)
    else
      some (.inr "java/lang/IllegalArgumentException")
  else
    some (.inr "java/lang/IndexOutOfBoundsException")
theorem r_X5_stairOf {X : mm_Cl} (hX : mm_mono X) {d c k : Nat} {Q : mm_Re → Prop} (hck : 1 ≤ c ∧ 6 ≤ k) {h : mm_S} {x0 : Nat} {x1 : Int32} {x2 : Int32} {o : (Int32 ⊕ String)} (hF : F_X5_stairOf h x0 x1 x2 = some o) (hQ : Q (fx_oI o, h)) : mm_Run X (d + 3) 79 c k [.ref x0, .int x1, .int x2] h Q := by
  unfold F_X5_stairOf at hF
  refine mm_Run_in (by decide) (by decide) (Nat.le_of_ble_eq_true rfl) ?_
  show mm_Ex (mm_Run X (d + 2)) 79 Q (0, [], [(0, .ref x0), (1, .int x1), (2, .int x2)], h) c k
  refine go_adv hX c_79 1 (F2 := (1, [.ref x0], [(0, .ref x0), (1, .int x1), (2, .int x2)], h)) rfl ?_
  obtain ⟨v1, e2, hF⟩ := mm_bind hF
  refine go_gR hX c_79 rfl e2 ?_
  refine go_adv hX c_79 1 (F2 := (5, [.int x1, .ref v1], [(0, .ref x0), (1, .int x1), (2, .int x2)], h)) rfl ?_
  obtain ⟨_, e3, hF⟩ := mm_bind hF
  obtain ⟨v4, e5, hF⟩ := mm_bind hF
  refine go_cV hX (As := [.int x1]) (rv := some (.int v4)) (h2 := h) (ci := 3) c_79 rfl (Nat.le_of_ble_eq_true rfl) rfl rfl e3 (by decide) (Nat.le_of_ble_eq_true rfl) (fun Q2 hQ2 => r_X3_isStair hX (d := d) e5 hQ2) ?_
  rcases mm_ite hF with ⟨hc6, hF⟩ | ⟨hc6, hF⟩
  · refine go_zt hX 21 c_79 rfl rfl hc6 ?_
    refine go_adv hX c_79 1 (F2 := (22, [.ref x0], [(0, .ref x0), (1, .int x1), (2, .int x2)], h)) rfl ?_
    obtain ⟨v7, e8, hF⟩ := mm_bind hF
    refine go_gR hX c_79 rfl e8 ?_
    obtain ⟨v9, e10, hF⟩ := mm_bind hF
    refine go_gR hX c_79 rfl e10 ?_
    refine go_adv hX c_79 1 (F2 := (29, [.int x1, .ref v9], [(0, .ref x0), (1, .int x1), (2, .int x2)], h)) rfl ?_
    obtain ⟨v11, e12, hF⟩ := mm_bind hF
    refine go_aR hX c_79 rfl e12 ?_
    refine go_adv hX c_79 2 (F2 := (32, [.int x2], [(3, .ref v11), (0, .ref x0), (1, .int x1), (2, .int x2)], h)) rfl ?_
    rcases mm_ite hF with ⟨hc13, hF⟩ | ⟨hc13, hF⟩
    · refine go_sw hX 80 c_79 rfl hc13 (by decide) (by decide +kernel) ?_
      refine go_adv hX c_79 1 (F2 := (81, [.ref v11], [(3, .ref v11), (0, .ref x0), (1, .int x1), (2, .int x2)], h)) rfl ?_
      obtain ⟨v14, e15, hF⟩ := mm_bind hF
      refine go_gI hX c_79 rfl e15 ?_
      cases hF
      exact go_iret hX c_79 rfl rfl rfl hQ
    rcases mm_ite hF with ⟨hc16, hF⟩ | ⟨hc16, hF⟩
    · refine go_sw hX 85 c_79 rfl hc16 (by decide) (by decide +kernel) ?_
      refine go_adv hX c_79 1 (F2 := (86, [.ref v11], [(3, .ref v11), (0, .ref x0), (1, .int x1), (2, .int x2)], h)) rfl ?_
      obtain ⟨v17, e18, hF⟩ := mm_bind hF
      refine go_gI hX c_79 rfl e18 ?_
      cases hF
      exact go_iret hX c_79 rfl rfl rfl hQ
    rcases mm_ite hF with ⟨hc19, hF⟩ | ⟨hc19, hF⟩
    · refine go_sw hX 90 c_79 rfl hc19 (by decide) (by decide +kernel) ?_
      refine go_adv hX c_79 1 (F2 := (91, [.ref v11], [(3, .ref v11), (0, .ref x0), (1, .int x1), (2, .int x2)], h)) rfl ?_
      obtain ⟨v20, e21, hF⟩ := mm_bind hF
      refine go_gI hX c_79 rfl e21 ?_
      cases hF
      exact go_iret hX c_79 rfl rfl rfl hQ
    rcases mm_ite hF with ⟨hc22, hF⟩ | ⟨hc22, hF⟩
    · refine go_sw hX 95 c_79 rfl hc22 (by decide) (by decide +kernel) ?_
      refine go_adv hX c_79 1 (F2 := (96, [.ref v11], [(3, .ref v11), (0, .ref x0), (1, .int x1), (2, .int x2)], h)) rfl ?_
      obtain ⟨v23, e24, hF⟩ := mm_bind hF
      refine go_gI hX c_79 rfl e24 ?_
      cases hF
      exact go_iret hX c_79 rfl rfl rfl hQ
    rcases mm_ite hF with ⟨hc25, hF⟩ | ⟨hc25, hF⟩
    · refine go_sw hX 100 c_79 rfl hc25 (by decide) (by decide +kernel) ?_
      refine go_adv hX c_79 1 (F2 := (101, [.ref v11], [(3, .ref v11), (0, .ref x0), (1, .int x1), (2, .int x2)], h)) rfl ?_
      obtain ⟨v26, e27, hF⟩ := mm_bind hF
      refine go_gI hX c_79 rfl e27 ?_
      cases hF
      exact go_iret hX c_79 rfl rfl rfl hQ
    rcases mm_ite hF with ⟨hc28, hF⟩ | ⟨hc28, hF⟩
    · refine go_sw hX 105 c_79 rfl hc28 (by decide) (by decide +kernel) ?_
      refine go_adv hX c_79 1 (F2 := (106, [.ref v11], [(3, .ref v11), (0, .ref x0), (1, .int x1), (2, .int x2)], h)) rfl ?_
      obtain ⟨v29, e30, hF⟩ := mm_bind hF
      refine go_gI hX c_79 rfl e30 ?_
      cases hF
      exact go_iret hX c_79 rfl rfl rfl hQ
    rcases mm_ite hF with ⟨hc31, hF⟩ | ⟨hc31, hF⟩
    · refine go_sw hX 110 c_79 rfl hc31 (by decide) (by decide +kernel) ?_
      refine go_adv hX c_79 1 (F2 := (111, [.ref v11], [(3, .ref v11), (0, .ref x0), (1, .int x1), (2, .int x2)], h)) rfl ?_
      obtain ⟨v32, e33, hF⟩ := mm_bind hF
      refine go_gI hX c_79 rfl e33 ?_
      cases hF
      exact go_iret hX c_79 rfl rfl rfl hQ
    rcases mm_ite hF with ⟨hc34, hF⟩ | ⟨hc34, hF⟩
    · refine go_sw hX 115 c_79 rfl hc34 (by decide) (by decide +kernel) ?_
      refine go_adv hX c_79 1 (F2 := (116, [.ref v11], [(3, .ref v11), (0, .ref x0), (1, .int x1), (2, .int x2)], h)) rfl ?_
      obtain ⟨_, e35, hF⟩ := mm_bind hF
      obtain ⟨v36, e37, hF⟩ := mm_bind hF
      refine go_cV hX (As := []) (rv := some (.int v36)) (h2 := h) (ci := 2) c_79 rfl (Nat.le_of_ble_eq_true rfl) rfl rfl e35 (by decide) (Nat.le_of_ble_eq_true rfl) (fun Q2 hQ2 => r_X2_rent hX (d := (d + 1)) e37 hQ2) ?_
      cases hF
      exact go_iret hX c_79 rfl rfl rfl hQ
    refine go_swd hX 8 120 c_79 rfl (by decide) rfl (by decide) (fun i hi => match i, hi with | 0, _ => hc13 | 1, _ => hc16 | 2, _ => hc19 | 3, _ => hc22 | 4, _ => hc25 | 5, _ => hc28 | 6, _ => hc31 | 7, _ => hc34 | j + 8, hj => absurd hj (by omega)) (by decide) ?_
    cases hF
    exact go_thr hX "java/lang/IllegalArgumentException" c_79 rfl (by decide) rfl (Nat.le_of_ble_eq_true rfl) hck hQ
  · refine go_zf hX c_79 rfl (by decide) hc6 ?_
    cases hF
    exact go_thr hX "java/lang/IndexOutOfBoundsException" c_79 rfl (by decide) rfl (Nat.le_of_ble_eq_true rfl) hck hQ
theorem c_80 : mm_cd 80 = k_X5_between := rfl
def F_X5_between (h : mm_S) (x0 : Nat) (x1 : Int32) (x2 : Int32) : Option (Int32 ⊕ String) :=
  (F_X5_isLanding h x1).bind fun v1 =>
  if v1 = 0 then
    some (.inr "java/lang/IndexOutOfBoundsException")
  else
    (F_X5_isLanding h x2).bind fun v4 =>
    if v4 ≠ 0 then
      (fx_gR h x0 5 0).bind fun v7 =>
      (fx_is h v7 3).bind fun _ =>
      (F_X3_stairThatJoins h v7 x1 x2).bind fun v10 =>
      if v10 ≠ (ki (-1)) then
        some (.inl v10)
      else
        some (.inr "java/util/NoSuchElementException")
    else
      some (.inr "java/lang/IndexOutOfBoundsException")
theorem r_X5_between {X : mm_Cl} (hX : mm_mono X) {d c k : Nat} {Q : mm_Re → Prop} (hck : 1 ≤ c ∧ 6 ≤ k) {h : mm_S} {x0 : Nat} {x1 : Int32} {x2 : Int32} {o : (Int32 ⊕ String)} (hF : F_X5_between h x0 x1 x2 = some o) (hQ : Q (fx_oI o, h)) : mm_Run X (d + 3) 80 c k [.ref x0, .int x1, .int x2] h Q := by
  unfold F_X5_between at hF
  refine mm_Run_in (by decide) (by decide) (Nat.le_of_ble_eq_true rfl) ?_
  show mm_Ex (mm_Run X (d + 2)) 80 Q (0, [], [(0, .ref x0), (1, .int x1), (2, .int x2)], h) c k
  refine go_adv hX c_80 1 (F2 := (1, [.int x1], [(0, .ref x0), (1, .int x1), (2, .int x2)], h)) rfl ?_
  obtain ⟨v1, e2, hF⟩ := mm_bind hF
  refine go_cS hX (As := [.int x1]) (rv := some (.int v1)) (h2 := h) c_80 rfl (by decide) (Nat.le_of_ble_eq_true rfl) rfl rfl (Nat.le_of_ble_eq_true rfl) (fun Q2 hQ2 => r_X5_isLanding hX (d := d) e2 hQ2) ?_
  rcases mm_ite hF with ⟨hc3, hF⟩ | ⟨hc3, hF⟩
  · refine go_zt hX 14 c_80 rfl rfl hc3 ?_
    cases hF
    exact go_thr hX "java/lang/IndexOutOfBoundsException" c_80 rfl (by decide) rfl (Nat.le_of_ble_eq_true rfl) hck hQ
  · refine go_zf hX c_80 rfl (by decide) hc3 ?_
    refine go_adv hX c_80 1 (F2 := (8, [.int x2], [(0, .ref x0), (1, .int x1), (2, .int x2)], h)) rfl ?_
    obtain ⟨v4, e5, hF⟩ := mm_bind hF
    refine go_cS hX (As := [.int x2]) (rv := some (.int v4)) (h2 := h) c_80 rfl (by decide) (Nat.le_of_ble_eq_true rfl) rfl rfl (Nat.le_of_ble_eq_true rfl) (fun Q2 hQ2 => r_X5_isLanding hX (d := d) e5 hQ2) ?_
    rcases mm_ite hF with ⟨hc6, hF⟩ | ⟨hc6, hF⟩
    · refine go_zt hX 24 c_80 rfl rfl hc6 ?_
      refine go_adv hX c_80 1 (F2 := (25, [.ref x0], [(0, .ref x0), (1, .int x1), (2, .int x2)], h)) rfl ?_
      obtain ⟨v7, e8, hF⟩ := mm_bind hF
      refine go_gR hX c_80 rfl e8 ?_
      refine go_adv hX c_80 2 (F2 := (30, [.int x2, .int x1, .ref v7], [(0, .ref x0), (1, .int x1), (2, .int x2)], h)) rfl ?_
      obtain ⟨_, e9, hF⟩ := mm_bind hF
      obtain ⟨v10, e11, hF⟩ := mm_bind hF
      refine go_cV hX (As := [.int x1, .int x2]) (rv := some (.int v10)) (h2 := h) (ci := 3) c_80 rfl (Nat.le_of_ble_eq_true rfl) rfl rfl e9 (by decide) (Nat.le_of_ble_eq_true rfl) (fun Q2 hQ2 => r_X3_stairThatJoins hX (d := d) e11 hQ2) ?_
      refine go_adv hX c_80 3 (F2 := (36, [.int (ki (-1)), .int v10], [(3, .int v10), (0, .ref x0), (1, .int x1), (2, .int x2)], h)) rfl ?_
      rcases mm_ite hF with ⟨hc12, hF⟩ | ⟨hc12, hF⟩
      · refine go_ct hX 50 c_80 rfl rfl hc12 ?_
        refine go_adv hX c_80 1 (F2 := (51, [.int v10], [(3, .int v10), (0, .ref x0), (1, .int x1), (2, .int x2)], h)) rfl ?_
        cases hF
        exact go_iret hX c_80 rfl rfl rfl hQ
      · refine go_cf hX c_80 rfl (by decide) hc12 ?_
        cases hF
        exact go_thr hX "java/util/NoSuchElementException" c_80 rfl (by decide) rfl (Nat.le_of_ble_eq_true rfl) hck hQ
    · refine go_zf hX c_80 rfl (by decide) hc6 ?_
      cases hF
      exact go_thr hX "java/lang/IndexOutOfBoundsException" c_80 rfl (by decide) rfl (Nat.le_of_ble_eq_true rfl) hck hQ
theorem c_81 : mm_cd 81 = k_X5_breaths := rfl
def F_X5_breaths (h : mm_S) (x0 : Nat) (x1 : Int32) (x2 : Int32) : Option (Int32 ⊕ String) :=
  (F_X5_isGiant h x1).bind fun v1 =>
  if v1 = 0 then
    some (.inr "java/lang/IndexOutOfBoundsException")
  else
    (fx_gR h x0 5 0).bind fun v4 =>
    (fx_is h v4 3).bind fun _ =>
    (F_X3_isStair h v4 x2).bind fun v7 =>
    if v7 ≠ 0 then
      (fx_gR h x0 5 0).bind fun v10 =>
      (fx_gR h v10 3 2).bind fun v12 =>
      (fx_aR h v12 x2).bind fun v14 =>
      (fx_is h v14 2).bind fun _ =>
      (F_X2_costFor h v14 x1).bind fun v17 =>
      some (.inl v17)
    else
      some (.inr "java/lang/IndexOutOfBoundsException")
theorem r_X5_breaths {X : mm_Cl} (hX : mm_mono X) {d c k : Nat} {Q : mm_Re → Prop} (hck : 1 ≤ c ∧ 6 ≤ k) {h : mm_S} {x0 : Nat} {x1 : Int32} {x2 : Int32} {o : (Int32 ⊕ String)} (hF : F_X5_breaths h x0 x1 x2 = some o) (hQ : Q (fx_oI o, h)) : mm_Run X (d + 3) 81 c k [.ref x0, .int x1, .int x2] h Q := by
  unfold F_X5_breaths at hF
  refine mm_Run_in (by decide) (by decide) (Nat.le_of_ble_eq_true rfl) ?_
  show mm_Ex (mm_Run X (d + 2)) 81 Q (0, [], [(0, .ref x0), (1, .int x1), (2, .int x2)], h) c k
  refine go_adv hX c_81 1 (F2 := (1, [.int x1], [(0, .ref x0), (1, .int x1), (2, .int x2)], h)) rfl ?_
  obtain ⟨v1, e2, hF⟩ := mm_bind hF
  refine go_cS hX (As := [.int x1]) (rv := some (.int v1)) (h2 := h) c_81 rfl (by decide) (Nat.le_of_ble_eq_true rfl) rfl rfl (Nat.le_of_ble_eq_true rfl) (fun Q2 hQ2 => r_X5_isGiant hX (d := d) e2 hQ2) ?_
  rcases mm_ite hF with ⟨hc3, hF⟩ | ⟨hc3, hF⟩
  · refine go_zt hX 18 c_81 rfl rfl hc3 ?_
    cases hF
    exact go_thr hX "java/lang/IndexOutOfBoundsException" c_81 rfl (by decide) rfl (Nat.le_of_ble_eq_true rfl) hck hQ
  · refine go_zf hX c_81 rfl (by decide) hc3 ?_
    refine go_adv hX c_81 1 (F2 := (8, [.ref x0], [(0, .ref x0), (1, .int x1), (2, .int x2)], h)) rfl ?_
    obtain ⟨v4, e5, hF⟩ := mm_bind hF
    refine go_gR hX c_81 rfl e5 ?_
    refine go_adv hX c_81 1 (F2 := (12, [.int x2, .ref v4], [(0, .ref x0), (1, .int x1), (2, .int x2)], h)) rfl ?_
    obtain ⟨_, e6, hF⟩ := mm_bind hF
    obtain ⟨v7, e8, hF⟩ := mm_bind hF
    refine go_cV hX (As := [.int x2]) (rv := some (.int v7)) (h2 := h) (ci := 3) c_81 rfl (Nat.le_of_ble_eq_true rfl) rfl rfl e6 (by decide) (Nat.le_of_ble_eq_true rfl) (fun Q2 hQ2 => r_X3_isStair hX (d := d) e8 hQ2) ?_
    rcases mm_ite hF with ⟨hc9, hF⟩ | ⟨hc9, hF⟩
    · refine go_zt hX 29 c_81 rfl rfl hc9 ?_
      refine go_adv hX c_81 1 (F2 := (30, [.ref x0], [(0, .ref x0), (1, .int x1), (2, .int x2)], h)) rfl ?_
      obtain ⟨v10, e11, hF⟩ := mm_bind hF
      refine go_gR hX c_81 rfl e11 ?_
      obtain ⟨v12, e13, hF⟩ := mm_bind hF
      refine go_gR hX c_81 rfl e13 ?_
      refine go_adv hX c_81 1 (F2 := (37, [.int x2, .ref v12], [(0, .ref x0), (1, .int x1), (2, .int x2)], h)) rfl ?_
      obtain ⟨v14, e15, hF⟩ := mm_bind hF
      refine go_aR hX c_81 rfl e15 ?_
      refine go_adv hX c_81 1 (F2 := (39, [.int x1, .ref v14], [(0, .ref x0), (1, .int x1), (2, .int x2)], h)) rfl ?_
      obtain ⟨_, e16, hF⟩ := mm_bind hF
      obtain ⟨v17, e18, hF⟩ := mm_bind hF
      refine go_cV hX (As := [.int x1]) (rv := some (.int v17)) (h2 := h) (ci := 2) c_81 rfl (Nat.le_of_ble_eq_true rfl) rfl rfl e16 (by decide) (Nat.le_of_ble_eq_true rfl) (fun Q2 hQ2 => r_X2_costFor hX (d := (d + 1)) e18 hQ2) ?_
      cases hF
      exact go_iret hX c_81 rfl rfl rfl hQ
    · refine go_zf hX c_81 rfl (by decide) hc9 ?_
      cases hF
      exact go_thr hX "java/lang/IndexOutOfBoundsException" c_81 rfl (by decide) rfl (Nat.le_of_ble_eq_true rfl) hck hQ
theorem c_82 : mm_cd 82 = k_X5_steps := rfl
def F_X5_steps (h : mm_S) (x0 : Nat) (x1 : Int32) (x2 : Int32) : Option ((Int32 ⊕ String) × mm_S) :=
  (F_X5_isLanding h x1).bind fun v1 =>
  if v1 = 0 then
    some (.inr "java/lang/IndexOutOfBoundsException", h)
  else
    (F_X5_isLanding h x2).bind fun v4 =>
    if v4 ≠ 0 then
      (fx_gR h x0 5 7).bind fun v7 =>
      (fx_gR h x0 5 0).bind fun v9 =>
      (fx_is h v7 4).bind fun _ =>
      (F_X4_goNearestFirst h v7 v9 (ki (-1)) x1).bind fun v12 =>
      (fx_gR v12 x0 5 7).bind fun v14 =>
      (fx_gR v12 v14 4 0).bind fun v16 =>
      (fx_aI v12 v16 x2).bind fun v18 =>
      if v18 < (nI 1000000) then
        (fx_gR v12 x0 5 7).bind fun v21 =>
        (fx_gR v12 v21 4 0).bind fun v23 =>
        (fx_aI v12 v23 x2).bind fun v25 =>
        some (.inl v25, v12)
      else
        some (.inr "java/util/NoSuchElementException", v12)
    else
      some (.inr "java/lang/IndexOutOfBoundsException", h)
theorem r_X5_steps {X : mm_Cl} (hX : mm_mono X) {d c k : Nat} {Q : mm_Re → Prop} (hck : 1 ≤ c ∧ 6 ≤ k) {h : mm_S} {x0 : Nat} {x1 : Int32} {x2 : Int32} {o : ((Int32 ⊕ String) × mm_S)} (hF : F_X5_steps h x0 x1 x2 = some o) (hQ : Q (fx_oI o.1, o.2)) : mm_Run X (d + 5) 82 c k [.ref x0, .int x1, .int x2] h Q := by
  unfold F_X5_steps at hF
  refine mm_Run_in (by decide) (by decide) (Nat.le_of_ble_eq_true rfl) ?_
  show mm_Ex (mm_Run X (d + 4)) 82 Q (0, [], [(0, .ref x0), (1, .int x1), (2, .int x2)], h) c k
  refine go_adv hX c_82 1 (F2 := (1, [.int x1], [(0, .ref x0), (1, .int x1), (2, .int x2)], h)) rfl ?_
  obtain ⟨v1, e2, hF⟩ := mm_bind hF
  refine go_cS hX (As := [.int x1]) (rv := some (.int v1)) (h2 := h) c_82 rfl (by decide) (Nat.le_of_ble_eq_true rfl) rfl rfl (Nat.le_of_ble_eq_true rfl) (fun Q2 hQ2 => r_X5_isLanding hX (d := (d + 2)) e2 hQ2) ?_
  rcases mm_ite hF with ⟨hc3, hF⟩ | ⟨hc3, hF⟩
  · refine go_zt hX 14 c_82 rfl rfl hc3 ?_
    cases hF
    exact go_thr hX "java/lang/IndexOutOfBoundsException" c_82 rfl (by decide) rfl (Nat.le_of_ble_eq_true rfl) hck hQ
  · refine go_zf hX c_82 rfl (by decide) hc3 ?_
    refine go_adv hX c_82 1 (F2 := (8, [.int x2], [(0, .ref x0), (1, .int x1), (2, .int x2)], h)) rfl ?_
    obtain ⟨v4, e5, hF⟩ := mm_bind hF
    refine go_cS hX (As := [.int x2]) (rv := some (.int v4)) (h2 := h) c_82 rfl (by decide) (Nat.le_of_ble_eq_true rfl) rfl rfl (Nat.le_of_ble_eq_true rfl) (fun Q2 hQ2 => r_X5_isLanding hX (d := (d + 2)) e5 hQ2) ?_
    rcases mm_ite hF with ⟨hc6, hF⟩ | ⟨hc6, hF⟩
    · refine go_zt hX 24 c_82 rfl rfl hc6 ?_
      refine go_adv hX c_82 1 (F2 := (25, [.ref x0], [(0, .ref x0), (1, .int x1), (2, .int x2)], h)) rfl ?_
      obtain ⟨v7, e8, hF⟩ := mm_bind hF
      refine go_gR hX c_82 rfl e8 ?_
      refine go_adv hX c_82 1 (F2 := (29, [.ref x0, .ref v7], [(0, .ref x0), (1, .int x1), (2, .int x2)], h)) rfl ?_
      obtain ⟨v9, e10, hF⟩ := mm_bind hF
      refine go_gR hX c_82 rfl e10 ?_
      refine go_adv hX c_82 2 (F2 := (34, [.int x1, .int (ki (-1)), .ref v9, .ref v7], [(0, .ref x0), (1, .int x1), (2, .int x2)], h)) rfl ?_
      obtain ⟨_, e11, hF⟩ := mm_bind hF
      obtain ⟨v12, e13, hF⟩ := mm_bind hF
      refine go_cV hX (As := [.ref v9, .int (ki (-1)), .int x1]) (rv := none) (h2 := v12) (ci := 4) c_82 rfl (Nat.le_of_ble_eq_true rfl) rfl rfl e11 (by decide) (Nat.le_of_ble_eq_true rfl) (fun Q2 hQ2 => r_X4_goNearestFirst hX (d := d) e13 hQ2) ?_
      refine go_adv hX c_82 1 (F2 := (38, [.ref x0], [(0, .ref x0), (1, .int x1), (2, .int x2)], v12)) rfl ?_
      obtain ⟨v14, e15, hF⟩ := mm_bind hF
      refine go_gR hX c_82 rfl e15 ?_
      obtain ⟨v16, e17, hF⟩ := mm_bind hF
      refine go_gR hX c_82 rfl e17 ?_
      refine go_adv hX c_82 1 (F2 := (45, [.int x2, .ref v16], [(0, .ref x0), (1, .int x1), (2, .int x2)], v12)) rfl ?_
      obtain ⟨v18, e19, hF⟩ := mm_bind hF
      refine go_aI hX c_82 rfl e19 ?_
      refine go_adv hX c_82 1 (F2 := (49, [.int (nI 1000000), .int v18], [(0, .ref x0), (1, .int x1), (2, .int x2)], v12)) rfl ?_
      rcases mm_ite hF with ⟨hc20, hF⟩ | ⟨hc20, hF⟩
      · refine go_ct hX 63 c_82 rfl rfl hc20 ?_
        refine go_adv hX c_82 1 (F2 := (64, [.ref x0], [(0, .ref x0), (1, .int x1), (2, .int x2)], v12)) rfl ?_
        obtain ⟨v21, e22, hF⟩ := mm_bind hF
        refine go_gR hX c_82 rfl e22 ?_
        obtain ⟨v23, e24, hF⟩ := mm_bind hF
        refine go_gR hX c_82 rfl e24 ?_
        refine go_adv hX c_82 1 (F2 := (71, [.int x2, .ref v23], [(0, .ref x0), (1, .int x1), (2, .int x2)], v12)) rfl ?_
        obtain ⟨v25, e26, hF⟩ := mm_bind hF
        refine go_aI hX c_82 rfl e26 ?_
        cases hF
        exact go_iret hX c_82 rfl rfl rfl hQ
      · refine go_cf hX c_82 rfl (by decide) hc20 ?_
        cases hF
        exact go_thr hX "java/util/NoSuchElementException" c_82 rfl (by decide) rfl (Nat.le_of_ble_eq_true rfl) hck hQ
    · refine go_zf hX c_82 rfl (by decide) hc6 ?_
      cases hF
      exact go_thr hX "java/lang/IndexOutOfBoundsException" c_82 rfl (by decide) rfl (Nat.le_of_ble_eq_true rfl) hck hQ
theorem c_83 : mm_cd 83 = k_X5_stepsAgain := rfl
def F_X5_stepsAgain (h : mm_S) (x0 : Nat) (x1 : Int32) (x2 : Int32) : Option ((Int32 ⊕ String) × mm_S) :=
  (F_X5_isLanding h x1).bind fun v1 =>
  if v1 = 0 then
    some (.inr "java/lang/IndexOutOfBoundsException", h)
  else
    (F_X5_isLanding h x2).bind fun v4 =>
    if v4 ≠ 0 then
      (fx_gR h x0 5 7).bind fun v7 =>
      (fx_gR h x0 5 0).bind fun v9 =>
      (fx_is h v7 4).bind fun _ =>
      (F_X4_goOverMoreAndMore h v7 v9).bind fun v12 =>
      (fx_gR v12 x0 5 7).bind fun v14 =>
      (fx_gR v12 v14 4 3).bind fun v16 =>
      (fx_aR v12 v16 x1).bind fun v18 =>
      (fx_aI v12 v18 x2).bind fun v20 =>
      if v20 < (nI 1000000) then
        (fx_gR v12 x0 5 7).bind fun v23 =>
        (fx_gR v12 v23 4 3).bind fun v25 =>
        (fx_aR v12 v25 x1).bind fun v27 =>
        (fx_aI v12 v27 x2).bind fun v29 =>
        some (.inl v29, v12)
      else
        some (.inr "java/util/NoSuchElementException", v12)
    else
      some (.inr "java/lang/IndexOutOfBoundsException", h)
theorem r_X5_stepsAgain {X : mm_Cl} (hX : mm_mono X) {d c k : Nat} {Q : mm_Re → Prop} (hck : 1 ≤ c ∧ 6 ≤ k) {h : mm_S} {x0 : Nat} {x1 : Int32} {x2 : Int32} {o : ((Int32 ⊕ String) × mm_S)} (hF : F_X5_stepsAgain h x0 x1 x2 = some o) (hQ : Q (fx_oI o.1, o.2)) : mm_Run X (d + 3) 83 c k [.ref x0, .int x1, .int x2] h Q := by
  unfold F_X5_stepsAgain at hF
  refine mm_Run_in (by decide) (by decide) (Nat.le_of_ble_eq_true rfl) ?_
  show mm_Ex (mm_Run X (d + 2)) 83 Q (0, [], [(0, .ref x0), (1, .int x1), (2, .int x2)], h) c k
  refine go_adv hX c_83 1 (F2 := (1, [.int x1], [(0, .ref x0), (1, .int x1), (2, .int x2)], h)) rfl ?_
  obtain ⟨v1, e2, hF⟩ := mm_bind hF
  refine go_cS hX (As := [.int x1]) (rv := some (.int v1)) (h2 := h) c_83 rfl (by decide) (Nat.le_of_ble_eq_true rfl) rfl rfl (Nat.le_of_ble_eq_true rfl) (fun Q2 hQ2 => r_X5_isLanding hX (d := d) e2 hQ2) ?_
  rcases mm_ite hF with ⟨hc3, hF⟩ | ⟨hc3, hF⟩
  · refine go_zt hX 14 c_83 rfl rfl hc3 ?_
    cases hF
    exact go_thr hX "java/lang/IndexOutOfBoundsException" c_83 rfl (by decide) rfl (Nat.le_of_ble_eq_true rfl) hck hQ
  · refine go_zf hX c_83 rfl (by decide) hc3 ?_
    refine go_adv hX c_83 1 (F2 := (8, [.int x2], [(0, .ref x0), (1, .int x1), (2, .int x2)], h)) rfl ?_
    obtain ⟨v4, e5, hF⟩ := mm_bind hF
    refine go_cS hX (As := [.int x2]) (rv := some (.int v4)) (h2 := h) c_83 rfl (by decide) (Nat.le_of_ble_eq_true rfl) rfl rfl (Nat.le_of_ble_eq_true rfl) (fun Q2 hQ2 => r_X5_isLanding hX (d := d) e5 hQ2) ?_
    rcases mm_ite hF with ⟨hc6, hF⟩ | ⟨hc6, hF⟩
    · refine go_zt hX 24 c_83 rfl rfl hc6 ?_
      refine go_adv hX c_83 1 (F2 := (25, [.ref x0], [(0, .ref x0), (1, .int x1), (2, .int x2)], h)) rfl ?_
      obtain ⟨v7, e8, hF⟩ := mm_bind hF
      refine go_gR hX c_83 rfl e8 ?_
      refine go_adv hX c_83 1 (F2 := (29, [.ref x0, .ref v7], [(0, .ref x0), (1, .int x1), (2, .int x2)], h)) rfl ?_
      obtain ⟨v9, e10, hF⟩ := mm_bind hF
      refine go_gR hX c_83 rfl e10 ?_
      obtain ⟨_, e11, hF⟩ := mm_bind hF
      obtain ⟨v12, e13, hF⟩ := mm_bind hF
      refine go_cV hX (As := [.ref v9]) (rv := none) (h2 := v12) (ci := 4) c_83 rfl (Nat.le_of_ble_eq_true rfl) rfl rfl e11 (by decide) (Nat.le_of_ble_eq_true rfl) (fun Q2 hQ2 => r_X4_goOverMoreAndMore hX (d := d) e13 hQ2) ?_
      refine go_adv hX c_83 1 (F2 := (36, [.ref x0], [(0, .ref x0), (1, .int x1), (2, .int x2)], v12)) rfl ?_
      obtain ⟨v14, e15, hF⟩ := mm_bind hF
      refine go_gR hX c_83 rfl e15 ?_
      obtain ⟨v16, e17, hF⟩ := mm_bind hF
      refine go_gR hX c_83 rfl e17 ?_
      refine go_adv hX c_83 1 (F2 := (43, [.int x1, .ref v16], [(0, .ref x0), (1, .int x1), (2, .int x2)], v12)) rfl ?_
      obtain ⟨v18, e19, hF⟩ := mm_bind hF
      refine go_aR hX c_83 rfl e19 ?_
      refine go_adv hX c_83 1 (F2 := (45, [.int x2, .ref v18], [(0, .ref x0), (1, .int x1), (2, .int x2)], v12)) rfl ?_
      obtain ⟨v20, e21, hF⟩ := mm_bind hF
      refine go_aI hX c_83 rfl e21 ?_
      refine go_adv hX c_83 1 (F2 := (49, [.int (nI 1000000), .int v20], [(0, .ref x0), (1, .int x1), (2, .int x2)], v12)) rfl ?_
      rcases mm_ite hF with ⟨hc22, hF⟩ | ⟨hc22, hF⟩
      · refine go_ct hX 63 c_83 rfl rfl hc22 ?_
        refine go_adv hX c_83 1 (F2 := (64, [.ref x0], [(0, .ref x0), (1, .int x1), (2, .int x2)], v12)) rfl ?_
        obtain ⟨v23, e24, hF⟩ := mm_bind hF
        refine go_gR hX c_83 rfl e24 ?_
        obtain ⟨v25, e26, hF⟩ := mm_bind hF
        refine go_gR hX c_83 rfl e26 ?_
        refine go_adv hX c_83 1 (F2 := (71, [.int x1, .ref v25], [(0, .ref x0), (1, .int x1), (2, .int x2)], v12)) rfl ?_
        obtain ⟨v27, e28, hF⟩ := mm_bind hF
        refine go_aR hX c_83 rfl e28 ?_
        refine go_adv hX c_83 1 (F2 := (73, [.int x2, .ref v27], [(0, .ref x0), (1, .int x1), (2, .int x2)], v12)) rfl ?_
        obtain ⟨v29, e30, hF⟩ := mm_bind hF
        refine go_aI hX c_83 rfl e30 ?_
        cases hF
        exact go_iret hX c_83 rfl rfl rfl hQ
      · refine go_cf hX c_83 rfl (by decide) hc22 ?_
        cases hF
        exact go_thr hX "java/util/NoSuchElementException" c_83 rfl (by decide) rfl (Nat.le_of_ble_eq_true rfl) hck hQ
    · refine go_zf hX c_83 rfl (by decide) hc6 ?_
      cases hF
      exact go_thr hX "java/lang/IndexOutOfBoundsException" c_83 rfl (by decide) rfl (Nat.le_of_ble_eq_true rfl) hck hQ
theorem c_84 : mm_cd 84 = k_X5_way := rfl
def F_X5_way (h : mm_S) (x0 : Nat) (x1 : Int32) (x2 : Int32) : Option ((Int32 ⊕ String) × mm_S) :=
  (F_X5_isGiant h x1).bind fun v1 =>
  if v1 = 0 then
    some (.inr "java/lang/IndexOutOfBoundsException", h)
  else
    (F_X5_isLanding h x2).bind fun v4 =>
    if v4 ≠ 0 then
      (fx_gR h x0 5 7).bind fun v7 =>
      (fx_gR h x0 5 0).bind fun v9 =>
      (fx_gR h x0 5 0).bind fun v11 =>
      (fx_gR h v11 3 0).bind fun v13 =>
      (fx_aR h v13 x1).bind fun v15 =>
      (fx_gI h v15 0 1).bind fun v17 =>
      (fx_is h v7 4).bind fun _ =>
      (F_X4_goNearestFirst h v7 v9 x1 v17).bind fun v20 =>
      (fx_gR v20 x0 5 7).bind fun v22 =>
      (fx_gR v20 v22 4 0).bind fun v24 =>
      (fx_aI v20 v24 x2).bind fun v26 =>
      if v26 < (nI 1000000) then
        (fx_gR v20 x0 5 7).bind fun v29 =>
        (fx_gR v20 v29 4 0).bind fun v31 =>
        (fx_aI v20 v31 x2).bind fun v33 =>
        some (.inl v33, v20)
      else
        some (.inr "java/util/NoSuchElementException", v20)
    else
      some (.inr "java/lang/IndexOutOfBoundsException", h)
theorem r_X5_way {X : mm_Cl} (hX : mm_mono X) {d c k : Nat} {Q : mm_Re → Prop} (hck : 1 ≤ c ∧ 6 ≤ k) {h : mm_S} {x0 : Nat} {x1 : Int32} {x2 : Int32} {o : ((Int32 ⊕ String) × mm_S)} (hF : F_X5_way h x0 x1 x2 = some o) (hQ : Q (fx_oI o.1, o.2)) : mm_Run X (d + 5) 84 c k [.ref x0, .int x1, .int x2] h Q := by
  unfold F_X5_way at hF
  refine mm_Run_in (by decide) (by decide) (Nat.le_of_ble_eq_true rfl) ?_
  show mm_Ex (mm_Run X (d + 4)) 84 Q (0, [], [(0, .ref x0), (1, .int x1), (2, .int x2)], h) c k
  refine go_adv hX c_84 1 (F2 := (1, [.int x1], [(0, .ref x0), (1, .int x1), (2, .int x2)], h)) rfl ?_
  obtain ⟨v1, e2, hF⟩ := mm_bind hF
  refine go_cS hX (As := [.int x1]) (rv := some (.int v1)) (h2 := h) c_84 rfl (by decide) (Nat.le_of_ble_eq_true rfl) rfl rfl (Nat.le_of_ble_eq_true rfl) (fun Q2 hQ2 => r_X5_isGiant hX (d := (d + 2)) e2 hQ2) ?_
  rcases mm_ite hF with ⟨hc3, hF⟩ | ⟨hc3, hF⟩
  · refine go_zt hX 14 c_84 rfl rfl hc3 ?_
    cases hF
    exact go_thr hX "java/lang/IndexOutOfBoundsException" c_84 rfl (by decide) rfl (Nat.le_of_ble_eq_true rfl) hck hQ
  · refine go_zf hX c_84 rfl (by decide) hc3 ?_
    refine go_adv hX c_84 1 (F2 := (8, [.int x2], [(0, .ref x0), (1, .int x1), (2, .int x2)], h)) rfl ?_
    obtain ⟨v4, e5, hF⟩ := mm_bind hF
    refine go_cS hX (As := [.int x2]) (rv := some (.int v4)) (h2 := h) c_84 rfl (by decide) (Nat.le_of_ble_eq_true rfl) rfl rfl (Nat.le_of_ble_eq_true rfl) (fun Q2 hQ2 => r_X5_isLanding hX (d := (d + 2)) e5 hQ2) ?_
    rcases mm_ite hF with ⟨hc6, hF⟩ | ⟨hc6, hF⟩
    · refine go_zt hX 25 c_84 rfl rfl hc6 ?_
      refine go_adv hX c_84 1 (F2 := (26, [.ref x0], [(0, .ref x0), (1, .int x1), (2, .int x2)], h)) rfl ?_
      obtain ⟨v7, e8, hF⟩ := mm_bind hF
      refine go_gR hX c_84 rfl e8 ?_
      refine go_adv hX c_84 1 (F2 := (30, [.ref x0, .ref v7], [(0, .ref x0), (1, .int x1), (2, .int x2)], h)) rfl ?_
      obtain ⟨v9, e10, hF⟩ := mm_bind hF
      refine go_gR hX c_84 rfl e10 ?_
      refine go_adv hX c_84 2 (F2 := (35, [.ref x0, .int x1, .ref v9, .ref v7], [(0, .ref x0), (1, .int x1), (2, .int x2)], h)) rfl ?_
      obtain ⟨v11, e12, hF⟩ := mm_bind hF
      refine go_gR hX c_84 rfl e12 ?_
      obtain ⟨v13, e14, hF⟩ := mm_bind hF
      refine go_gR hX c_84 rfl e14 ?_
      refine go_adv hX c_84 1 (F2 := (42, [.int x1, .ref v13, .int x1, .ref v9, .ref v7], [(0, .ref x0), (1, .int x1), (2, .int x2)], h)) rfl ?_
      obtain ⟨v15, e16, hF⟩ := mm_bind hF
      refine go_aR hX c_84 rfl e16 ?_
      obtain ⟨v17, e18, hF⟩ := mm_bind hF
      refine go_gI hX c_84 rfl e18 ?_
      obtain ⟨_, e19, hF⟩ := mm_bind hF
      obtain ⟨v20, e21, hF⟩ := mm_bind hF
      refine go_cV hX (As := [.ref v9, .int x1, .int v17]) (rv := none) (h2 := v20) (ci := 4) c_84 rfl (Nat.le_of_ble_eq_true rfl) rfl rfl e19 (by decide) (Nat.le_of_ble_eq_true rfl) (fun Q2 hQ2 => r_X4_goNearestFirst hX (d := d) e21 hQ2) ?_
      refine go_adv hX c_84 1 (F2 := (50, [.ref x0], [(0, .ref x0), (1, .int x1), (2, .int x2)], v20)) rfl ?_
      obtain ⟨v22, e23, hF⟩ := mm_bind hF
      refine go_gR hX c_84 rfl e23 ?_
      obtain ⟨v24, e25, hF⟩ := mm_bind hF
      refine go_gR hX c_84 rfl e25 ?_
      refine go_adv hX c_84 1 (F2 := (57, [.int x2, .ref v24], [(0, .ref x0), (1, .int x1), (2, .int x2)], v20)) rfl ?_
      obtain ⟨v26, e27, hF⟩ := mm_bind hF
      refine go_aI hX c_84 rfl e27 ?_
      refine go_adv hX c_84 1 (F2 := (61, [.int (nI 1000000), .int v26], [(0, .ref x0), (1, .int x1), (2, .int x2)], v20)) rfl ?_
      rcases mm_ite hF with ⟨hc28, hF⟩ | ⟨hc28, hF⟩
      · refine go_ct hX 75 c_84 rfl rfl hc28 ?_
        refine go_adv hX c_84 1 (F2 := (76, [.ref x0], [(0, .ref x0), (1, .int x1), (2, .int x2)], v20)) rfl ?_
        obtain ⟨v29, e30, hF⟩ := mm_bind hF
        refine go_gR hX c_84 rfl e30 ?_
        obtain ⟨v31, e32, hF⟩ := mm_bind hF
        refine go_gR hX c_84 rfl e32 ?_
        refine go_adv hX c_84 1 (F2 := (83, [.int x2, .ref v31], [(0, .ref x0), (1, .int x1), (2, .int x2)], v20)) rfl ?_
        obtain ⟨v33, e34, hF⟩ := mm_bind hF
        refine go_aI hX c_84 rfl e34 ?_
        cases hF
        exact go_iret hX c_84 rfl rfl rfl hQ
      · refine go_cf hX c_84 rfl (by decide) hc28 ?_
        cases hF
        exact go_thr hX "java/util/NoSuchElementException" c_84 rfl (by decide) rfl (Nat.le_of_ble_eq_true rfl) hck hQ
    · refine go_zf hX c_84 rfl (by decide) hc6 ?_
      cases hF
      exact go_thr hX "java/lang/IndexOutOfBoundsException" c_84 rfl (by decide) rfl (Nat.le_of_ble_eq_true rfl) hck hQ
theorem c_85 : mm_cd 85 = k_X5_wayAgain := rfl
def F_X5_wayAgain (h : mm_S) (x0 : Nat) (x1 : Int32) (x2 : Int32) : Option ((Int32 ⊕ String) × mm_S) :=
  (F_X5_isGiant h x1).bind fun v1 =>
  if v1 = 0 then
    some (.inr "java/lang/IndexOutOfBoundsException", h)
  else
    (F_X5_isLanding h x2).bind fun v4 =>
    if v4 ≠ 0 then
      (fx_gR h x0 5 7).bind fun v7 =>
      (fx_gR h x0 5 0).bind fun v9 =>
      (fx_is h v7 4).bind fun _ =>
      (F_X4_goAgainAndAgain h v7 v9 x1).bind fun v12 =>
      (fx_gR v12 x0 5 7).bind fun v14 =>
      (fx_gR v12 v14 4 2).bind fun v16 =>
      (fx_aI v12 v16 x2).bind fun v18 =>
      if v18 < (nI 1000000) then
        (fx_gR v12 x0 5 7).bind fun v21 =>
        (fx_gR v12 v21 4 2).bind fun v23 =>
        (fx_aI v12 v23 x2).bind fun v25 =>
        some (.inl v25, v12)
      else
        some (.inr "java/util/NoSuchElementException", v12)
    else
      some (.inr "java/lang/IndexOutOfBoundsException", h)
theorem r_X5_wayAgain {X : mm_Cl} (hX : mm_mono X) {d c k : Nat} {Q : mm_Re → Prop} (hck : 1 ≤ c ∧ 6 ≤ k) {h : mm_S} {x0 : Nat} {x1 : Int32} {x2 : Int32} {o : ((Int32 ⊕ String) × mm_S)} (hF : F_X5_wayAgain h x0 x1 x2 = some o) (hQ : Q (fx_oI o.1, o.2)) : mm_Run X (d + 4) 85 c k [.ref x0, .int x1, .int x2] h Q := by
  unfold F_X5_wayAgain at hF
  refine mm_Run_in (by decide) (by decide) (Nat.le_of_ble_eq_true rfl) ?_
  show mm_Ex (mm_Run X (d + 3)) 85 Q (0, [], [(0, .ref x0), (1, .int x1), (2, .int x2)], h) c k
  refine go_adv hX c_85 1 (F2 := (1, [.int x1], [(0, .ref x0), (1, .int x1), (2, .int x2)], h)) rfl ?_
  obtain ⟨v1, e2, hF⟩ := mm_bind hF
  refine go_cS hX (As := [.int x1]) (rv := some (.int v1)) (h2 := h) c_85 rfl (by decide) (Nat.le_of_ble_eq_true rfl) rfl rfl (Nat.le_of_ble_eq_true rfl) (fun Q2 hQ2 => r_X5_isGiant hX (d := (d + 1)) e2 hQ2) ?_
  rcases mm_ite hF with ⟨hc3, hF⟩ | ⟨hc3, hF⟩
  · refine go_zt hX 14 c_85 rfl rfl hc3 ?_
    cases hF
    exact go_thr hX "java/lang/IndexOutOfBoundsException" c_85 rfl (by decide) rfl (Nat.le_of_ble_eq_true rfl) hck hQ
  · refine go_zf hX c_85 rfl (by decide) hc3 ?_
    refine go_adv hX c_85 1 (F2 := (8, [.int x2], [(0, .ref x0), (1, .int x1), (2, .int x2)], h)) rfl ?_
    obtain ⟨v4, e5, hF⟩ := mm_bind hF
    refine go_cS hX (As := [.int x2]) (rv := some (.int v4)) (h2 := h) c_85 rfl (by decide) (Nat.le_of_ble_eq_true rfl) rfl rfl (Nat.le_of_ble_eq_true rfl) (fun Q2 hQ2 => r_X5_isLanding hX (d := (d + 1)) e5 hQ2) ?_
    rcases mm_ite hF with ⟨hc6, hF⟩ | ⟨hc6, hF⟩
    · refine go_zt hX 25 c_85 rfl rfl hc6 ?_
      refine go_adv hX c_85 1 (F2 := (26, [.ref x0], [(0, .ref x0), (1, .int x1), (2, .int x2)], h)) rfl ?_
      obtain ⟨v7, e8, hF⟩ := mm_bind hF
      refine go_gR hX c_85 rfl e8 ?_
      refine go_adv hX c_85 1 (F2 := (30, [.ref x0, .ref v7], [(0, .ref x0), (1, .int x1), (2, .int x2)], h)) rfl ?_
      obtain ⟨v9, e10, hF⟩ := mm_bind hF
      refine go_gR hX c_85 rfl e10 ?_
      refine go_adv hX c_85 1 (F2 := (34, [.int x1, .ref v9, .ref v7], [(0, .ref x0), (1, .int x1), (2, .int x2)], h)) rfl ?_
      obtain ⟨_, e11, hF⟩ := mm_bind hF
      obtain ⟨v12, e13, hF⟩ := mm_bind hF
      refine go_cV hX (As := [.ref v9, .int x1]) (rv := none) (h2 := v12) (ci := 4) c_85 rfl (Nat.le_of_ble_eq_true rfl) rfl rfl e11 (by decide) (Nat.le_of_ble_eq_true rfl) (fun Q2 hQ2 => r_X4_goAgainAndAgain hX (d := d) e13 hQ2) ?_
      refine go_adv hX c_85 1 (F2 := (38, [.ref x0], [(0, .ref x0), (1, .int x1), (2, .int x2)], v12)) rfl ?_
      obtain ⟨v14, e15, hF⟩ := mm_bind hF
      refine go_gR hX c_85 rfl e15 ?_
      obtain ⟨v16, e17, hF⟩ := mm_bind hF
      refine go_gR hX c_85 rfl e17 ?_
      refine go_adv hX c_85 1 (F2 := (45, [.int x2, .ref v16], [(0, .ref x0), (1, .int x1), (2, .int x2)], v12)) rfl ?_
      obtain ⟨v18, e19, hF⟩ := mm_bind hF
      refine go_aI hX c_85 rfl e19 ?_
      refine go_adv hX c_85 1 (F2 := (49, [.int (nI 1000000), .int v18], [(0, .ref x0), (1, .int x1), (2, .int x2)], v12)) rfl ?_
      rcases mm_ite hF with ⟨hc20, hF⟩ | ⟨hc20, hF⟩
      · refine go_ct hX 63 c_85 rfl rfl hc20 ?_
        refine go_adv hX c_85 1 (F2 := (64, [.ref x0], [(0, .ref x0), (1, .int x1), (2, .int x2)], v12)) rfl ?_
        obtain ⟨v21, e22, hF⟩ := mm_bind hF
        refine go_gR hX c_85 rfl e22 ?_
        obtain ⟨v23, e24, hF⟩ := mm_bind hF
        refine go_gR hX c_85 rfl e24 ?_
        refine go_adv hX c_85 1 (F2 := (71, [.int x2, .ref v23], [(0, .ref x0), (1, .int x1), (2, .int x2)], v12)) rfl ?_
        obtain ⟨v25, e26, hF⟩ := mm_bind hF
        refine go_aI hX c_85 rfl e26 ?_
        cases hF
        exact go_iret hX c_85 rfl rfl rfl hQ
      · refine go_cf hX c_85 rfl (by decide) hc20 ?_
        cases hF
        exact go_thr hX "java/util/NoSuchElementException" c_85 rfl (by decide) rfl (Nat.le_of_ble_eq_true rfl) hck hQ
    · refine go_zf hX c_85 rfl (by decide) hc6 ?_
      cases hF
      exact go_thr hX "java/lang/IndexOutOfBoundsException" c_85 rfl (by decide) rfl (Nat.le_of_ble_eq_true rfl) hck hQ
theorem c_86 : mm_cd 86 = k_X5_first := rfl
def F_X5_first (h : mm_S) (x0 : Nat) (x1 : Int32) (x2 : Int32) : Option ((Int32 ⊕ String) × mm_S) :=
  (F_X5_isGiant h x1).bind fun v1 =>
  if v1 = 0 then
    some (.inr "java/lang/IndexOutOfBoundsException", h)
  else
    (F_X5_isLanding h x2).bind fun v4 =>
    if v4 ≠ 0 then
      (fx_gR h x0 5 7).bind fun v7 =>
      (fx_gR h x0 5 0).bind fun v9 =>
      (fx_is h v7 4).bind fun _ =>
      (F_X4_firstStair h v7 v9 x1 x2).bind fun v12 =>
      if v12.1 ≠ (ki (-1)) then
        some (.inl v12.1, v12.2)
      else
        some (.inr "java/util/NoSuchElementException", v12.2)
    else
      some (.inr "java/lang/IndexOutOfBoundsException", h)
theorem r_X5_first {X : mm_Cl} (hX : mm_mono X) {d c k : Nat} {Q : mm_Re → Prop} (hck : 1 ≤ c ∧ 6 ≤ k) {h : mm_S} {x0 : Nat} {x1 : Int32} {x2 : Int32} {o : ((Int32 ⊕ String) × mm_S)} (hF : F_X5_first h x0 x1 x2 = some o) (hQ : Q (fx_oI o.1, o.2)) : mm_Run X (d + 6) 86 c k [.ref x0, .int x1, .int x2] h Q := by
  unfold F_X5_first at hF
  refine mm_Run_in (by decide) (by decide) (Nat.le_of_ble_eq_true rfl) ?_
  show mm_Ex (mm_Run X (d + 5)) 86 Q (0, [], [(0, .ref x0), (1, .int x1), (2, .int x2)], h) c k
  refine go_adv hX c_86 1 (F2 := (1, [.int x1], [(0, .ref x0), (1, .int x1), (2, .int x2)], h)) rfl ?_
  obtain ⟨v1, e2, hF⟩ := mm_bind hF
  refine go_cS hX (As := [.int x1]) (rv := some (.int v1)) (h2 := h) c_86 rfl (by decide) (Nat.le_of_ble_eq_true rfl) rfl rfl (Nat.le_of_ble_eq_true rfl) (fun Q2 hQ2 => r_X5_isGiant hX (d := (d + 3)) e2 hQ2) ?_
  rcases mm_ite hF with ⟨hc3, hF⟩ | ⟨hc3, hF⟩
  · refine go_zt hX 14 c_86 rfl rfl hc3 ?_
    cases hF
    exact go_thr hX "java/lang/IndexOutOfBoundsException" c_86 rfl (by decide) rfl (Nat.le_of_ble_eq_true rfl) hck hQ
  · refine go_zf hX c_86 rfl (by decide) hc3 ?_
    refine go_adv hX c_86 1 (F2 := (8, [.int x2], [(0, .ref x0), (1, .int x1), (2, .int x2)], h)) rfl ?_
    obtain ⟨v4, e5, hF⟩ := mm_bind hF
    refine go_cS hX (As := [.int x2]) (rv := some (.int v4)) (h2 := h) c_86 rfl (by decide) (Nat.le_of_ble_eq_true rfl) rfl rfl (Nat.le_of_ble_eq_true rfl) (fun Q2 hQ2 => r_X5_isLanding hX (d := (d + 3)) e5 hQ2) ?_
    rcases mm_ite hF with ⟨hc6, hF⟩ | ⟨hc6, hF⟩
    · refine go_zt hX 25 c_86 rfl rfl hc6 ?_
      refine go_adv hX c_86 1 (F2 := (26, [.ref x0], [(0, .ref x0), (1, .int x1), (2, .int x2)], h)) rfl ?_
      obtain ⟨v7, e8, hF⟩ := mm_bind hF
      refine go_gR hX c_86 rfl e8 ?_
      refine go_adv hX c_86 1 (F2 := (30, [.ref x0, .ref v7], [(0, .ref x0), (1, .int x1), (2, .int x2)], h)) rfl ?_
      obtain ⟨v9, e10, hF⟩ := mm_bind hF
      refine go_gR hX c_86 rfl e10 ?_
      refine go_adv hX c_86 2 (F2 := (35, [.int x2, .int x1, .ref v9, .ref v7], [(0, .ref x0), (1, .int x1), (2, .int x2)], h)) rfl ?_
      obtain ⟨_, e11, hF⟩ := mm_bind hF
      obtain ⟨v12, e13, hF⟩ := mm_bind hF
      refine go_cV hX (As := [.ref v9, .int x1, .int x2]) (rv := some (.int v12.1)) (h2 := v12.2) (ci := 4) c_86 rfl (Nat.le_of_ble_eq_true rfl) rfl rfl e11 (by decide) (Nat.le_of_ble_eq_true rfl) (fun Q2 hQ2 => r_X4_firstStair hX (d := d) e13 hQ2) ?_
      refine go_adv hX c_86 3 (F2 := (41, [.int (ki (-1)), .int v12.1], [(3, .int v12.1), (0, .ref x0), (1, .int x1), (2, .int x2)], v12.2)) rfl ?_
      rcases mm_ite hF with ⟨hc14, hF⟩ | ⟨hc14, hF⟩
      · refine go_ct hX 55 c_86 rfl rfl hc14 ?_
        refine go_adv hX c_86 1 (F2 := (56, [.int v12.1], [(3, .int v12.1), (0, .ref x0), (1, .int x1), (2, .int x2)], v12.2)) rfl ?_
        cases hF
        exact go_iret hX c_86 rfl rfl rfl hQ
      · refine go_cf hX c_86 rfl (by decide) hc14 ?_
        cases hF
        exact go_thr hX "java/util/NoSuchElementException" c_86 rfl (by decide) rfl (Nat.le_of_ble_eq_true rfl) hck hQ
    · refine go_zf hX c_86 rfl (by decide) hc6 ?_
      cases hF
      exact go_thr hX "java/lang/IndexOutOfBoundsException" c_86 rfl (by decide) rfl (Nat.le_of_ble_eq_true rfl) hck hQ
theorem c_87 : mm_cd 87 = k_X5_reach := rfl
def F_X5_reach_L45 : Nat → Nat → Int32 → Int32 → mm_S → Option (Int32 × mm_S)
  | 0, _, _, _, _ => none
  | n + 1, x0, x2, x3, h =>
    if (kb 8) ≤ x3 then
      some ((x2, h))
    else
      (fx_gR h x0 5 7).bind fun v20 =>
      (fx_gR h v20 4 0).bind fun v22 =>
      (fx_aI h v22 x3).bind fun v24 =>
      if (nI 1000000) ≤ v24 then
        F_X5_reach_L45 n x0 x2 (x3 + ki 1) h
      else
        F_X5_reach_L45 n x0 (x2 ||| ((ki 1) <<< (x3 &&& 31))) (x3 + ki 1) h
def F_X5_reach (h : mm_S) (x0 : Nat) (x1 : Int32) : Option ((Int32 ⊕ String) × mm_S) :=
  (F_X5_isGiant h x1).bind fun v1 =>
  if v1 ≠ 0 then
    (fx_gR h x0 5 7).bind fun v4 =>
    (fx_gR h x0 5 0).bind fun v6 =>
    (fx_gR h x0 5 0).bind fun v8 =>
    (fx_gR h v8 3 0).bind fun v10 =>
    (fx_aR h v10 x1).bind fun v12 =>
    (fx_gI h v12 0 1).bind fun v14 =>
    (fx_is h v4 4).bind fun _ =>
    (F_X4_goNearestFirst h v4 v6 x1 v14).bind fun v17 =>
    (F_X5_reach_L45 1000 x0 (ki 0) (ki 0) v17).bind fun o27 =>
    some (.inl o27.1, o27.2)
  else
    some (.inr "java/lang/IndexOutOfBoundsException", h)
theorem r_X5_reach_L45 {X : mm_Cl} (hX : mm_mono X) {d c k : Nat} {Q : mm_Re → Prop} (hck : 1 ≤ c ∧ 6 ≤ k) : ∀ (n : Nat) (x0 : Nat) (x2 : Int32) (x3 : Int32) (h : mm_S) (o : (Int32 × mm_S)), F_X5_reach_L45 n x0 x2 x3 h = some o → (mm_Ex (mm_Run X (d + 4)) 87 Q (78, [], [(2, .int o.1)], o.2) c k) → mm_Ex (mm_Run X (d + 4)) 87 Q (45, [], [(0, .ref x0), (2, .int x2), (3, .int x3)], h) c k := by
  intro n
  induction n with
  | zero => intro x0 x2 x3 h o hF; cases hF
  | succ n ih =>
    intro x0 x2 x3 h o hF hE
    unfold F_X5_reach_L45 at hF
    refine go_adv hX c_87 2 (F2 := (48, [.int (kb 8), .int x3], [(0, .ref x0), (2, .int x2), (3, .int x3)], h)) rfl ?_
    rcases mm_ite hF with ⟨hc19, hF⟩ | ⟨hc19, hF⟩
    · refine go_ct hX 78 c_87 rfl rfl hc19 ?_
      cases hF
      refine go_ls [(2, .int x2)] ⟨rfl, trivial⟩ ?_
      exact hE
    · refine go_cf hX c_87 rfl (by decide) hc19 ?_
      refine go_adv hX c_87 1 (F2 := (52, [.ref x0], [(0, .ref x0), (2, .int x2), (3, .int x3)], h)) rfl ?_
      obtain ⟨v20, e21, hF⟩ := mm_bind hF
      refine go_gR hX c_87 rfl e21 ?_
      obtain ⟨v22, e23, hF⟩ := mm_bind hF
      refine go_gR hX c_87 rfl e23 ?_
      refine go_adv hX c_87 1 (F2 := (59, [.int x3, .ref v22], [(0, .ref x0), (2, .int x2), (3, .int x3)], h)) rfl ?_
      obtain ⟨v24, e25, hF⟩ := mm_bind hF
      refine go_aI hX c_87 rfl e25 ?_
      refine go_adv hX c_87 1 (F2 := (63, [.int (nI 1000000), .int v24], [(0, .ref x0), (2, .int x2), (3, .int x3)], h)) rfl ?_
      rcases mm_ite hF with ⟨hc26, hF⟩ | ⟨hc26, hF⟩
      · refine go_ct hX 72 c_87 rfl rfl hc26 ?_
        refine go_adv hX c_87 1 (F2 := (75, [], [(3, .int (x3 + ki 1)), (0, .ref x0), (2, .int x2)], h)) rfl ?_
        refine go_to hX 45 c_87 rfl rfl ?_
        refine go_ls [(0, .ref x0), (2, .int x2), (3, .int (x3 + ki 1))] ⟨rfl, ⟨rfl, ⟨rfl, trivial⟩⟩⟩ ?_
        exact ih x0 x2 (x3 + ki 1) h _ hF hE
      · refine go_cf hX c_87 rfl (by decide) hc26 ?_
        refine go_adv hX c_87 7 (F2 := (75, [], [(3, .int (x3 + ki 1)), (2, .int (x2 ||| ((ki 1) <<< (x3 &&& 31)))), (0, .ref x0)], h)) rfl ?_
        refine go_to hX 45 c_87 rfl rfl ?_
        refine go_ls [(0, .ref x0), (2, .int (x2 ||| ((ki 1) <<< (x3 &&& 31)))), (3, .int (x3 + ki 1))] ⟨rfl, ⟨rfl, ⟨rfl, trivial⟩⟩⟩ ?_
        exact ih x0 (x2 ||| ((ki 1) <<< (x3 &&& 31))) (x3 + ki 1) h _ hF hE
theorem r_X5_reach {X : mm_Cl} (hX : mm_mono X) {d c k : Nat} {Q : mm_Re → Prop} (hck : 1 ≤ c ∧ 6 ≤ k) {h : mm_S} {x0 : Nat} {x1 : Int32} {o : ((Int32 ⊕ String) × mm_S)} (hF : F_X5_reach h x0 x1 = some o) (hQ : Q (fx_oI o.1, o.2)) : mm_Run X (d + 5) 87 c k [.ref x0, .int x1] h Q := by
  unfold F_X5_reach at hF
  refine mm_Run_in (by decide) (by decide) (Nat.le_of_ble_eq_true rfl) ?_
  show mm_Ex (mm_Run X (d + 4)) 87 Q (0, [], [(0, .ref x0), (1, .int x1)], h) c k
  refine go_adv hX c_87 1 (F2 := (1, [.int x1], [(0, .ref x0), (1, .int x1)], h)) rfl ?_
  obtain ⟨v1, e2, hF⟩ := mm_bind hF
  refine go_cS hX (As := [.int x1]) (rv := some (.int v1)) (h2 := h) c_87 rfl (by decide) (Nat.le_of_ble_eq_true rfl) rfl rfl (Nat.le_of_ble_eq_true rfl) (fun Q2 hQ2 => r_X5_isGiant hX (d := (d + 2)) e2 hQ2) ?_
  rcases mm_ite hF with ⟨hc3, hF⟩ | ⟨hc3, hF⟩
  · refine go_zt hX 17 c_87 rfl rfl hc3 ?_
    refine go_adv hX c_87 1 (F2 := (18, [.ref x0], [(0, .ref x0), (1, .int x1)], h)) rfl ?_
    obtain ⟨v4, e5, hF⟩ := mm_bind hF
    refine go_gR hX c_87 rfl e5 ?_
    refine go_adv hX c_87 1 (F2 := (22, [.ref x0, .ref v4], [(0, .ref x0), (1, .int x1)], h)) rfl ?_
    obtain ⟨v6, e7, hF⟩ := mm_bind hF
    refine go_gR hX c_87 rfl e7 ?_
    refine go_adv hX c_87 2 (F2 := (27, [.ref x0, .int x1, .ref v6, .ref v4], [(0, .ref x0), (1, .int x1)], h)) rfl ?_
    obtain ⟨v8, e9, hF⟩ := mm_bind hF
    refine go_gR hX c_87 rfl e9 ?_
    obtain ⟨v10, e11, hF⟩ := mm_bind hF
    refine go_gR hX c_87 rfl e11 ?_
    refine go_adv hX c_87 1 (F2 := (34, [.int x1, .ref v10, .int x1, .ref v6, .ref v4], [(0, .ref x0), (1, .int x1)], h)) rfl ?_
    obtain ⟨v12, e13, hF⟩ := mm_bind hF
    refine go_aR hX c_87 rfl e13 ?_
    obtain ⟨v14, e15, hF⟩ := mm_bind hF
    refine go_gI hX c_87 rfl e15 ?_
    obtain ⟨_, e16, hF⟩ := mm_bind hF
    obtain ⟨v17, e18, hF⟩ := mm_bind hF
    refine go_cV hX (As := [.ref v6, .int x1, .int v14]) (rv := none) (h2 := v17) (ci := 4) c_87 rfl (Nat.le_of_ble_eq_true rfl) rfl rfl e16 (by decide) (Nat.le_of_ble_eq_true rfl) (fun Q2 hQ2 => r_X4_goNearestFirst hX (d := d) e18 hQ2) ?_
    refine go_adv hX c_87 4 (F2 := (45, [], [(3, .int (ki 0)), (2, .int (ki 0)), (0, .ref x0), (1, .int x1)], v17)) rfl ?_
    refine go_ls [(0, .ref x0), (2, .int (ki 0)), (3, .int (ki 0))] ⟨rfl, ⟨rfl, ⟨rfl, trivial⟩⟩⟩ ?_
    obtain ⟨o27, e28, hF⟩ := mm_bind hF
    refine r_X5_reach_L45 hX hck 1000 x0 (ki 0) (ki 0) v17 o27 e28 ?_
    refine go_adv hX c_87 1 (F2 := (79, [.int o27.1], [(2, .int o27.1)], o27.2)) rfl ?_
    cases hF
    exact go_iret hX c_87 rfl rfl rfl hQ
  · refine go_zf hX c_87 rfl (by decide) hc3 ?_
    cases hF
    exact go_thr hX "java/lang/IndexOutOfBoundsException" c_87 rfl (by decide) rfl (Nat.le_of_ble_eq_true rfl) hck hQ
theorem c_88 : mm_cd 88 = k_X5_dustIn := rfl
def F_X5_dustIn_L61 (h : mm_S) : Nat → Int32 → Nat → Int32 → Int32 → Option Int32
  | 0, _, _, _, _ => none
  | n + 1, x2, x3, x4, x5 =>
    if x2 ≤ x5 then
      some x4
    else
      (fx_is h x3 2).bind fun _ =>
      (F_X2_dustPerDay h x3).bind fun v20 =>
      F_X5_dustIn_L61 h n x2 x3 (if (x4 + v20) < (kb 20) then (x4 + v20) else (kb 20)) (x5 + ki 1)
def F_X5_dustIn (h : mm_S) (x0 : Nat) (x1 : Int32) (x2 : Int32) : Option (Int32 ⊕ String) :=
  (fx_gR h x0 5 0).bind fun v1 =>
  (fx_is h v1 3).bind fun _ =>
  (F_X3_isStair h v1 x1).bind fun v4 =>
  if v4 ≠ 0 then
    (F_X5_isInRange h x2 (ki 0) (kb 40)).bind fun v7 =>
    if v7 ≠ 0 then
      (fx_gR h x0 5 0).bind fun v10 =>
      (fx_gR h v10 3 2).bind fun v12 =>
      (fx_aR h v12 x1).bind fun v14 =>
      (fx_gI h v14 2 3).bind fun v16 =>
      (F_X5_dustIn_L61 h 1000 x2 v14 v16 (ki 0)).bind fun o22 =>
      some (.inl o22)
    else
      some (.inr "java/lang/IllegalArgumentException")
  else
    some (.inr "java/lang/IndexOutOfBoundsException")
theorem r_X5_dustIn_L61 {X : mm_Cl} (hX : mm_mono X) {d c k : Nat} {Q : mm_Re → Prop} (hck : 1 ≤ c ∧ 6 ≤ k) {h : mm_S} : ∀ (n : Nat) (x2 : Int32) (x3 : Nat) (x4 : Int32) (x5 : Int32) (o : Int32), F_X5_dustIn_L61 h n x2 x3 x4 x5 = some o → (mm_Ex (mm_Run X (d + 2)) 88 Q (87, [], [(4, .int o)], h) c k) → mm_Ex (mm_Run X (d + 2)) 88 Q (61, [], [(2, .int x2), (3, .ref x3), (4, .int x4), (5, .int x5)], h) c k := by
  intro n
  induction n with
  | zero => intro x2 x3 x4 x5 o hF; cases hF
  | succ n ih =>
    intro x2 x3 x4 x5 o hF hE
    unfold F_X5_dustIn_L61 at hF
    refine go_adv hX c_88 2 (F2 := (64, [.int x2, .int x5], [(2, .int x2), (3, .ref x3), (4, .int x4), (5, .int x5)], h)) rfl ?_
    rcases mm_ite hF with ⟨hc18, hF⟩ | ⟨hc18, hF⟩
    · refine go_ct hX 87 c_88 rfl rfl hc18 ?_
      cases hF
      refine go_ls [(4, .int x4)] ⟨rfl, trivial⟩ ?_
      exact hE
    · refine go_cf hX c_88 rfl (by decide) hc18 ?_
      refine go_adv hX c_88 3 (F2 := (72, [.ref x3, .int x4, .int (kb 20)], [(2, .int x2), (3, .ref x3), (4, .int x4), (5, .int x5)], h)) rfl ?_
      obtain ⟨_, e19, hF⟩ := mm_bind hF
      obtain ⟨v20, e21, hF⟩ := mm_bind hF
      refine go_cV hX (As := []) (rv := some (.int v20)) (h2 := h) (ci := 2) c_88 rfl (Nat.le_of_ble_eq_true rfl) rfl rfl e19 (by decide) (Nat.le_of_ble_eq_true rfl) (fun Q2 hQ2 => r_X2_dustPerDay hX (d := (d + 1)) e21 hQ2) ?_
      refine go_adv hX c_88 1 (F2 := (76, [.int (x4 + v20), .int (kb 20)], [(2, .int x2), (3, .ref x3), (4, .int x4), (5, .int x5)], h)) rfl ?_
      refine go_min hX c_88 rfl (Nat.le_of_ble_eq_true rfl) ?_
      refine go_adv hX c_88 2 (F2 := (84, [], [(5, .int (x5 + ki 1)), (4, .int (if (x4 + v20) < (kb 20) then (x4 + v20) else (kb 20))), (2, .int x2), (3, .ref x3)], h)) rfl ?_
      refine go_to hX 61 c_88 rfl rfl ?_
      refine go_ls [(2, .int x2), (3, .ref x3), (4, .int (if (x4 + v20) < (kb 20) then (x4 + v20) else (kb 20))), (5, .int (x5 + ki 1))] ⟨rfl, ⟨rfl, ⟨rfl, ⟨rfl, trivial⟩⟩⟩⟩ ?_
      exact ih x2 x3 (if (x4 + v20) < (kb 20) then (x4 + v20) else (kb 20)) (x5 + ki 1) _ hF hE
theorem r_X5_dustIn {X : mm_Cl} (hX : mm_mono X) {d c k : Nat} {Q : mm_Re → Prop} (hck : 1 ≤ c ∧ 6 ≤ k) {h : mm_S} {x0 : Nat} {x1 : Int32} {x2 : Int32} {o : (Int32 ⊕ String)} (hF : F_X5_dustIn h x0 x1 x2 = some o) (hQ : Q (fx_oI o, h)) : mm_Run X (d + 3) 88 c k [.ref x0, .int x1, .int x2] h Q := by
  unfold F_X5_dustIn at hF
  refine mm_Run_in (by decide) (by decide) (Nat.le_of_ble_eq_true rfl) ?_
  show mm_Ex (mm_Run X (d + 2)) 88 Q (0, [], [(0, .ref x0), (1, .int x1), (2, .int x2)], h) c k
  refine go_adv hX c_88 1 (F2 := (1, [.ref x0], [(0, .ref x0), (1, .int x1), (2, .int x2)], h)) rfl ?_
  obtain ⟨v1, e2, hF⟩ := mm_bind hF
  refine go_gR hX c_88 rfl e2 ?_
  refine go_adv hX c_88 1 (F2 := (5, [.int x1, .ref v1], [(0, .ref x0), (1, .int x1), (2, .int x2)], h)) rfl ?_
  obtain ⟨_, e3, hF⟩ := mm_bind hF
  obtain ⟨v4, e5, hF⟩ := mm_bind hF
  refine go_cV hX (As := [.int x1]) (rv := some (.int v4)) (h2 := h) (ci := 3) c_88 rfl (Nat.le_of_ble_eq_true rfl) rfl rfl e3 (by decide) (Nat.le_of_ble_eq_true rfl) (fun Q2 hQ2 => r_X3_isStair hX (d := d) e5 hQ2) ?_
  rcases mm_ite hF with ⟨hc6, hF⟩ | ⟨hc6, hF⟩
  · refine go_zt hX 21 c_88 rfl rfl hc6 ?_
    refine go_adv hX c_88 3 (F2 := (25, [.int (kb 40), .int (ki 0), .int x2], [(0, .ref x0), (1, .int x1), (2, .int x2)], h)) rfl ?_
    obtain ⟨v7, e8, hF⟩ := mm_bind hF
    refine go_cS hX (As := [.int x2, .int (ki 0), .int (kb 40)]) (rv := some (.int v7)) (h2 := h) c_88 rfl (by decide) (Nat.le_of_ble_eq_true rfl) rfl rfl (Nat.le_of_ble_eq_true rfl) (fun Q2 hQ2 => r_X5_isInRange hX (d := (d + 1)) e8 hQ2) ?_
    rcases mm_ite hF with ⟨hc9, hF⟩ | ⟨hc9, hF⟩
    · refine go_zt hX 42 c_88 rfl rfl hc9 ?_
      refine go_adv hX c_88 1 (F2 := (43, [.ref x0], [(0, .ref x0), (1, .int x1), (2, .int x2)], h)) rfl ?_
      obtain ⟨v10, e11, hF⟩ := mm_bind hF
      refine go_gR hX c_88 rfl e11 ?_
      obtain ⟨v12, e13, hF⟩ := mm_bind hF
      refine go_gR hX c_88 rfl e13 ?_
      refine go_adv hX c_88 1 (F2 := (50, [.int x1, .ref v12], [(0, .ref x0), (1, .int x1), (2, .int x2)], h)) rfl ?_
      obtain ⟨v14, e15, hF⟩ := mm_bind hF
      refine go_aR hX c_88 rfl e15 ?_
      refine go_adv hX c_88 2 (F2 := (53, [.ref v14], [(3, .ref v14), (0, .ref x0), (1, .int x1), (2, .int x2)], h)) rfl ?_
      obtain ⟨v16, e17, hF⟩ := mm_bind hF
      refine go_gI hX c_88 rfl e17 ?_
      refine go_adv hX c_88 3 (F2 := (61, [], [(5, .int (ki 0)), (4, .int v16), (3, .ref v14), (0, .ref x0), (1, .int x1), (2, .int x2)], h)) rfl ?_
      refine go_ls [(2, .int x2), (3, .ref v14), (4, .int v16), (5, .int (ki 0))] ⟨rfl, ⟨rfl, ⟨rfl, ⟨rfl, trivial⟩⟩⟩⟩ ?_
      obtain ⟨o22, e23, hF⟩ := mm_bind hF
      refine r_X5_dustIn_L61 hX hck 1000 x2 v14 v16 (ki 0) o22 e23 ?_
      refine go_adv hX c_88 1 (F2 := (89, [.int o22], [(4, .int o22)], h)) rfl ?_
      cases hF
      exact go_iret hX c_88 rfl rfl rfl hQ
    · refine go_zf hX c_88 rfl (by decide) hc9 ?_
      cases hF
      exact go_thr hX "java/lang/IllegalArgumentException" c_88 rfl (by decide) rfl (Nat.le_of_ble_eq_true rfl) hck hQ
  · refine go_zf hX c_88 rfl (by decide) hc6 ?_
    cases hF
    exact go_thr hX "java/lang/IndexOutOfBoundsException" c_88 rfl (by decide) rfl (Nat.le_of_ble_eq_true rfl) hck hQ
theorem c_89 : mm_cd 89 = k_X5_dustAgain := rfl
def F_X5_dustAgain (h : mm_S) (x0 : Nat) (x1 : Int32) (x2 : Int32) : Option (Int32 ⊕ String) :=
  (fx_gR h x0 5 0).bind fun v1 =>
  (fx_is h v1 3).bind fun _ =>
  (F_X3_isStair h v1 x1).bind fun v4 =>
  if v4 ≠ 0 then
    (F_X5_isInRange h x2 (ki 0) (kb 40)).bind fun v7 =>
    if v7 ≠ 0 then
      (fx_gR h x0 5 0).bind fun v10 =>
      (fx_gR h v10 3 2).bind fun v12 =>
      (fx_aR h v12 x1).bind fun v14 =>
      (fx_gI h v14 2 3).bind fun v16 =>
      (fx_is h v14 2).bind fun _ =>
      (F_X2_dustPerDay h v14).bind fun v19 =>
      some (.inl (if (v16 + (x2 * v19)) < (kb 20) then (v16 + (x2 * v19)) else (kb 20)))
    else
      some (.inr "java/lang/IllegalArgumentException")
  else
    some (.inr "java/lang/IndexOutOfBoundsException")
theorem r_X5_dustAgain {X : mm_Cl} (hX : mm_mono X) {d c k : Nat} {Q : mm_Re → Prop} (hck : 1 ≤ c ∧ 6 ≤ k) {h : mm_S} {x0 : Nat} {x1 : Int32} {x2 : Int32} {o : (Int32 ⊕ String)} (hF : F_X5_dustAgain h x0 x1 x2 = some o) (hQ : Q (fx_oI o, h)) : mm_Run X (d + 3) 89 c k [.ref x0, .int x1, .int x2] h Q := by
  unfold F_X5_dustAgain at hF
  refine mm_Run_in (by decide) (by decide) (Nat.le_of_ble_eq_true rfl) ?_
  show mm_Ex (mm_Run X (d + 2)) 89 Q (0, [], [(0, .ref x0), (1, .int x1), (2, .int x2)], h) c k
  refine go_adv hX c_89 1 (F2 := (1, [.ref x0], [(0, .ref x0), (1, .int x1), (2, .int x2)], h)) rfl ?_
  obtain ⟨v1, e2, hF⟩ := mm_bind hF
  refine go_gR hX c_89 rfl e2 ?_
  refine go_adv hX c_89 1 (F2 := (5, [.int x1, .ref v1], [(0, .ref x0), (1, .int x1), (2, .int x2)], h)) rfl ?_
  obtain ⟨_, e3, hF⟩ := mm_bind hF
  obtain ⟨v4, e5, hF⟩ := mm_bind hF
  refine go_cV hX (As := [.int x1]) (rv := some (.int v4)) (h2 := h) (ci := 3) c_89 rfl (Nat.le_of_ble_eq_true rfl) rfl rfl e3 (by decide) (Nat.le_of_ble_eq_true rfl) (fun Q2 hQ2 => r_X3_isStair hX (d := d) e5 hQ2) ?_
  rcases mm_ite hF with ⟨hc6, hF⟩ | ⟨hc6, hF⟩
  · refine go_zt hX 21 c_89 rfl rfl hc6 ?_
    refine go_adv hX c_89 3 (F2 := (25, [.int (kb 40), .int (ki 0), .int x2], [(0, .ref x0), (1, .int x1), (2, .int x2)], h)) rfl ?_
    obtain ⟨v7, e8, hF⟩ := mm_bind hF
    refine go_cS hX (As := [.int x2, .int (ki 0), .int (kb 40)]) (rv := some (.int v7)) (h2 := h) c_89 rfl (by decide) (Nat.le_of_ble_eq_true rfl) rfl rfl (Nat.le_of_ble_eq_true rfl) (fun Q2 hQ2 => r_X5_isInRange hX (d := (d + 1)) e8 hQ2) ?_
    rcases mm_ite hF with ⟨hc9, hF⟩ | ⟨hc9, hF⟩
    · refine go_zt hX 42 c_89 rfl rfl hc9 ?_
      refine go_adv hX c_89 1 (F2 := (43, [.ref x0], [(0, .ref x0), (1, .int x1), (2, .int x2)], h)) rfl ?_
      obtain ⟨v10, e11, hF⟩ := mm_bind hF
      refine go_gR hX c_89 rfl e11 ?_
      obtain ⟨v12, e13, hF⟩ := mm_bind hF
      refine go_gR hX c_89 rfl e13 ?_
      refine go_adv hX c_89 1 (F2 := (50, [.int x1, .ref v12], [(0, .ref x0), (1, .int x1), (2, .int x2)], h)) rfl ?_
      obtain ⟨v14, e15, hF⟩ := mm_bind hF
      refine go_aR hX c_89 rfl e15 ?_
      refine go_adv hX c_89 3 (F2 := (55, [.ref v14, .int (kb 20)], [(3, .ref v14), (0, .ref x0), (1, .int x1), (2, .int x2)], h)) rfl ?_
      obtain ⟨v16, e17, hF⟩ := mm_bind hF
      refine go_gI hX c_89 rfl e17 ?_
      refine go_adv hX c_89 2 (F2 := (60, [.ref v14, .int x2, .int v16, .int (kb 20)], [(3, .ref v14), (0, .ref x0), (1, .int x1), (2, .int x2)], h)) rfl ?_
      obtain ⟨_, e18, hF⟩ := mm_bind hF
      obtain ⟨v19, e20, hF⟩ := mm_bind hF
      refine go_cV hX (As := []) (rv := some (.int v19)) (h2 := h) (ci := 2) c_89 rfl (Nat.le_of_ble_eq_true rfl) rfl rfl e18 (by decide) (Nat.le_of_ble_eq_true rfl) (fun Q2 hQ2 => r_X2_dustPerDay hX (d := (d + 1)) e20 hQ2) ?_
      refine go_adv hX c_89 2 (F2 := (65, [.int (v16 + (x2 * v19)), .int (kb 20)], [(3, .ref v14), (0, .ref x0), (1, .int x1), (2, .int x2)], h)) rfl ?_
      refine go_min hX c_89 rfl (Nat.le_of_ble_eq_true rfl) ?_
      cases hF
      exact go_iret hX c_89 rfl rfl rfl hQ
    · refine go_zf hX c_89 rfl (by decide) hc9 ?_
      cases hF
      exact go_thr hX "java/lang/IllegalArgumentException" c_89 rfl (by decide) rfl (Nat.le_of_ble_eq_true rfl) hck hQ
  · refine go_zf hX c_89 rfl (by decide) hc6 ?_
    cases hF
    exact go_thr hX "java/lang/IndexOutOfBoundsException" c_89 rfl (by decide) rfl (Nat.le_of_ble_eq_true rfl) hck hQ
theorem c_90 : mm_cd 90 = k_X5_rentsIn := rfl
def F_X5_rentsIn_L36 : Nat → Nat → Int32 → Int32 → Int32 → mm_S → Option (Int32 × mm_S)
  | 0, _, _, _, _, _ => none
  | n + 1, x0, x1, x2, x3, h =>
    if x1 ≤ x3 then
      some ((x2, h))
    else
      (fx_gR h x0 5 1).bind fun v12 =>
      (fx_is h v12 3).bind fun _ =>
      (F_X3_passDay h v12).bind fun v15 =>
      F_X5_rentsIn_L36 n x0 x1 (x2 + v15.1) (x3 + ki 1) v15.2
def F_X5_rentsIn (h : mm_S) (x0 : Nat) (x1 : Int32) : Option ((Int32 ⊕ String) × mm_S) :=
  (F_X5_isInRange h x1 (ki 0) (kb 40)).bind fun v1 =>
  if v1 ≠ 0 then
    (fx_gR h x0 5 1).bind fun v4 =>
    (fx_gR h x0 5 0).bind fun v6 =>
    (fx_is h v4 3).bind fun _ =>
    (F_X3_copyFrom h v4 v6).bind fun v9 =>
    (F_X5_rentsIn_L36 1000 x0 x1 (ki 0) (ki 0) v9).bind fun o17 =>
    some (.inl o17.1, o17.2)
  else
    some (.inr "java/lang/IllegalArgumentException", h)
theorem r_X5_rentsIn_L36 {X : mm_Cl} (hX : mm_mono X) {d c k : Nat} {Q : mm_Re → Prop} (hck : 1 ≤ c ∧ 6 ≤ k) : ∀ (n : Nat) (x0 : Nat) (x1 : Int32) (x2 : Int32) (x3 : Int32) (h : mm_S) (o : (Int32 × mm_S)), F_X5_rentsIn_L36 n x0 x1 x2 x3 h = some o → (mm_Ex (mm_Run X (d + 5)) 90 Q (57, [], [(2, .int o.1)], o.2) c k) → mm_Ex (mm_Run X (d + 5)) 90 Q (36, [], [(0, .ref x0), (1, .int x1), (2, .int x2), (3, .int x3)], h) c k := by
  intro n
  induction n with
  | zero => intro x0 x1 x2 x3 h o hF; cases hF
  | succ n ih =>
    intro x0 x1 x2 x3 h o hF hE
    unfold F_X5_rentsIn_L36 at hF
    refine go_adv hX c_90 2 (F2 := (38, [.int x1, .int x3], [(0, .ref x0), (1, .int x1), (2, .int x2), (3, .int x3)], h)) rfl ?_
    rcases mm_ite hF with ⟨hc11, hF⟩ | ⟨hc11, hF⟩
    · refine go_ct hX 57 c_90 rfl rfl hc11 ?_
      cases hF
      refine go_ls [(2, .int x2)] ⟨rfl, trivial⟩ ?_
      exact hE
    · refine go_cf hX c_90 rfl (by decide) hc11 ?_
      refine go_adv hX c_90 2 (F2 := (43, [.ref x0, .int x2], [(0, .ref x0), (1, .int x1), (2, .int x2), (3, .int x3)], h)) rfl ?_
      obtain ⟨v12, e13, hF⟩ := mm_bind hF
      refine go_gR hX c_90 rfl e13 ?_
      obtain ⟨_, e14, hF⟩ := mm_bind hF
      obtain ⟨v15, e16, hF⟩ := mm_bind hF
      refine go_cV hX (As := []) (rv := some (.int v15.1)) (h2 := v15.2) (ci := 3) c_90 rfl (Nat.le_of_ble_eq_true rfl) rfl rfl e14 (by decide) (Nat.le_of_ble_eq_true rfl) (fun Q2 hQ2 => r_X3_passDay hX (d := d) e16 hQ2) ?_
      refine go_adv hX c_90 3 (F2 := (54, [], [(3, .int (x3 + ki 1)), (2, .int (x2 + v15.1)), (0, .ref x0), (1, .int x1)], v15.2)) rfl ?_
      refine go_to hX 36 c_90 rfl rfl ?_
      refine go_ls [(0, .ref x0), (1, .int x1), (2, .int (x2 + v15.1)), (3, .int (x3 + ki 1))] ⟨rfl, ⟨rfl, ⟨rfl, ⟨rfl, trivial⟩⟩⟩⟩ ?_
      exact ih x0 x1 (x2 + v15.1) (x3 + ki 1) v15.2 _ hF hE
theorem r_X5_rentsIn {X : mm_Cl} (hX : mm_mono X) {d c k : Nat} {Q : mm_Re → Prop} (hck : 1 ≤ c ∧ 6 ≤ k) {h : mm_S} {x0 : Nat} {x1 : Int32} {o : ((Int32 ⊕ String) × mm_S)} (hF : F_X5_rentsIn h x0 x1 = some o) (hQ : Q (fx_oI o.1, o.2)) : mm_Run X (d + 6) 90 c k [.ref x0, .int x1] h Q := by
  unfold F_X5_rentsIn at hF
  refine mm_Run_in (by decide) (by decide) (Nat.le_of_ble_eq_true rfl) ?_
  show mm_Ex (mm_Run X (d + 5)) 90 Q (0, [], [(0, .ref x0), (1, .int x1)], h) c k
  refine go_adv hX c_90 3 (F2 := (4, [.int (kb 40), .int (ki 0), .int x1], [(0, .ref x0), (1, .int x1)], h)) rfl ?_
  obtain ⟨v1, e2, hF⟩ := mm_bind hF
  refine go_cS hX (As := [.int x1, .int (ki 0), .int (kb 40)]) (rv := some (.int v1)) (h2 := h) c_90 rfl (by decide) (Nat.le_of_ble_eq_true rfl) rfl rfl (Nat.le_of_ble_eq_true rfl) (fun Q2 hQ2 => r_X5_isInRange hX (d := (d + 4)) e2 hQ2) ?_
  rcases mm_ite hF with ⟨hc3, hF⟩ | ⟨hc3, hF⟩
  · refine go_zt hX 21 c_90 rfl rfl hc3 ?_
    refine go_adv hX c_90 1 (F2 := (22, [.ref x0], [(0, .ref x0), (1, .int x1)], h)) rfl ?_
    obtain ⟨v4, e5, hF⟩ := mm_bind hF
    refine go_gR hX c_90 rfl e5 ?_
    refine go_adv hX c_90 1 (F2 := (26, [.ref x0, .ref v4], [(0, .ref x0), (1, .int x1)], h)) rfl ?_
    obtain ⟨v6, e7, hF⟩ := mm_bind hF
    refine go_gR hX c_90 rfl e7 ?_
    obtain ⟨_, e8, hF⟩ := mm_bind hF
    obtain ⟨v9, e10, hF⟩ := mm_bind hF
    refine go_cV hX (As := [.ref v6]) (rv := none) (h2 := v9) (ci := 3) c_90 rfl (Nat.le_of_ble_eq_true rfl) rfl rfl e8 (by decide) (Nat.le_of_ble_eq_true rfl) (fun Q2 hQ2 => r_X3_copyFrom hX (d := (d + 3)) e10 hQ2) ?_
    refine go_adv hX c_90 4 (F2 := (36, [], [(3, .int (ki 0)), (2, .int (ki 0)), (0, .ref x0), (1, .int x1)], v9)) rfl ?_
    refine go_ls [(0, .ref x0), (1, .int x1), (2, .int (ki 0)), (3, .int (ki 0))] ⟨rfl, ⟨rfl, ⟨rfl, ⟨rfl, trivial⟩⟩⟩⟩ ?_
    obtain ⟨o17, e18, hF⟩ := mm_bind hF
    refine r_X5_rentsIn_L36 hX hck 1000 x0 x1 (ki 0) (ki 0) v9 o17 e18 ?_
    refine go_adv hX c_90 1 (F2 := (58, [.int o17.1], [(2, .int o17.1)], o17.2)) rfl ?_
    cases hF
    exact go_iret hX c_90 rfl rfl rfl hQ
  · refine go_zf hX c_90 rfl (by decide) hc3 ?_
    cases hF
    exact go_thr hX "java/lang/IllegalArgumentException" c_90 rfl (by decide) rfl (Nat.le_of_ble_eq_true rfl) hck hQ
theorem c_91 : mm_cd 91 = k_X5_levyOf := rfl
def F_X5_levyOf (h : mm_S) (x0 : Nat) (x1 : Int32) (x2 : Int32) : Option (Int32 ⊕ String) :=
  (F_X5_isGiant h x1).bind fun v1 =>
  if v1 = 0 then
    some (.inr "java/lang/IndexOutOfBoundsException")
  else
    (fx_gR h x0 5 0).bind fun v4 =>
    (fx_is h v4 3).bind fun _ =>
    (F_X3_isStair h v4 x2).bind fun v7 =>
    if v7 ≠ 0 then
      (fx_gR h x0 5 0).bind fun v10 =>
      (fx_is h v10 3).bind fun _ =>
      (F_X3_levyToCome h v10 x1 x2).bind fun v13 =>
      some (.inl v13)
    else
      some (.inr "java/lang/IndexOutOfBoundsException")
theorem r_X5_levyOf {X : mm_Cl} (hX : mm_mono X) {d c k : Nat} {Q : mm_Re → Prop} (hck : 1 ≤ c ∧ 6 ≤ k) {h : mm_S} {x0 : Nat} {x1 : Int32} {x2 : Int32} {o : (Int32 ⊕ String)} (hF : F_X5_levyOf h x0 x1 x2 = some o) (hQ : Q (fx_oI o, h)) : mm_Run X (d + 6) 91 c k [.ref x0, .int x1, .int x2] h Q := by
  unfold F_X5_levyOf at hF
  refine mm_Run_in (by decide) (by decide) (Nat.le_of_ble_eq_true rfl) ?_
  show mm_Ex (mm_Run X (d + 5)) 91 Q (0, [], [(0, .ref x0), (1, .int x1), (2, .int x2)], h) c k
  refine go_adv hX c_91 1 (F2 := (1, [.int x1], [(0, .ref x0), (1, .int x1), (2, .int x2)], h)) rfl ?_
  obtain ⟨v1, e2, hF⟩ := mm_bind hF
  refine go_cS hX (As := [.int x1]) (rv := some (.int v1)) (h2 := h) c_91 rfl (by decide) (Nat.le_of_ble_eq_true rfl) rfl rfl (Nat.le_of_ble_eq_true rfl) (fun Q2 hQ2 => r_X5_isGiant hX (d := (d + 3)) e2 hQ2) ?_
  rcases mm_ite hF with ⟨hc3, hF⟩ | ⟨hc3, hF⟩
  · refine go_zt hX 18 c_91 rfl rfl hc3 ?_
    cases hF
    exact go_thr hX "java/lang/IndexOutOfBoundsException" c_91 rfl (by decide) rfl (Nat.le_of_ble_eq_true rfl) hck hQ
  · refine go_zf hX c_91 rfl (by decide) hc3 ?_
    refine go_adv hX c_91 1 (F2 := (8, [.ref x0], [(0, .ref x0), (1, .int x1), (2, .int x2)], h)) rfl ?_
    obtain ⟨v4, e5, hF⟩ := mm_bind hF
    refine go_gR hX c_91 rfl e5 ?_
    refine go_adv hX c_91 1 (F2 := (12, [.int x2, .ref v4], [(0, .ref x0), (1, .int x1), (2, .int x2)], h)) rfl ?_
    obtain ⟨_, e6, hF⟩ := mm_bind hF
    obtain ⟨v7, e8, hF⟩ := mm_bind hF
    refine go_cV hX (As := [.int x2]) (rv := some (.int v7)) (h2 := h) (ci := 3) c_91 rfl (Nat.le_of_ble_eq_true rfl) rfl rfl e6 (by decide) (Nat.le_of_ble_eq_true rfl) (fun Q2 hQ2 => r_X3_isStair hX (d := (d + 3)) e8 hQ2) ?_
    rcases mm_ite hF with ⟨hc9, hF⟩ | ⟨hc9, hF⟩
    · refine go_zt hX 29 c_91 rfl rfl hc9 ?_
      refine go_adv hX c_91 1 (F2 := (30, [.ref x0], [(0, .ref x0), (1, .int x1), (2, .int x2)], h)) rfl ?_
      obtain ⟨v10, e11, hF⟩ := mm_bind hF
      refine go_gR hX c_91 rfl e11 ?_
      refine go_adv hX c_91 2 (F2 := (35, [.int x2, .int x1, .ref v10], [(0, .ref x0), (1, .int x1), (2, .int x2)], h)) rfl ?_
      obtain ⟨_, e12, hF⟩ := mm_bind hF
      obtain ⟨v13, e14, hF⟩ := mm_bind hF
      refine go_cV hX (As := [.int x1, .int x2]) (rv := some (.int v13)) (h2 := h) (ci := 3) c_91 rfl (Nat.le_of_ble_eq_true rfl) rfl rfl e12 (by decide) (Nat.le_of_ble_eq_true rfl) (fun Q2 hQ2 => r_X3_levyToCome hX (d := d) e14 hQ2) ?_
      cases hF
      exact go_iret hX c_91 rfl rfl rfl hQ
    · refine go_zf hX c_91 rfl (by decide) hc9 ?_
      cases hF
      exact go_thr hX "java/lang/IndexOutOfBoundsException" c_91 rfl (by decide) rfl (Nat.le_of_ble_eq_true rfl) hck hQ
theorem c_92 : mm_cd 92 = k_X5_bestLevy := rfl
def F_X5_bestLevy_L24 (h : mm_S) : Nat → Nat → Int32 → Int32 → Int32 → Int32 → Option Int32
  | 0, _, _, _, _, _ => none
  | n + 1, x0, x1, x2, x3, x4 =>
    (fx_gR h x0 5 0).bind fun v4 =>
    (fx_gI h v4 3 3).bind fun v6 =>
    if v6 ≤ x4 then
      some x2
    else
      (fx_gR h x0 5 0).bind fun v9 =>
      (fx_is h v9 3).bind fun _ =>
      (F_X3_levyToCome h v9 x1 x4).bind fun v12 =>
      if v12 ≤ x3 then
        F_X5_bestLevy_L24 h n x0 x1 x2 x3 (x4 + ki 1)
      else
        F_X5_bestLevy_L24 h n x0 x1 x4 v12 (x4 + ki 1)
def F_X5_bestLevy (h : mm_S) (x0 : Nat) (x1 : Int32) : Option (Int32 ⊕ String) :=
  (F_X5_isGiant h x1).bind fun v1 =>
  if v1 ≠ 0 then
    (F_X5_bestLevy_L24 h 1000 x0 x1 (ki (-1)) (ki 0) (ki 0)).bind fun o15 =>
    if o15 ≠ (ki (-1)) then
      some (.inl o15)
    else
      some (.inr "java/util/NoSuchElementException")
  else
    some (.inr "java/lang/IndexOutOfBoundsException")
theorem r_X5_bestLevy_L24 {X : mm_Cl} (hX : mm_mono X) {d c k : Nat} {Q : mm_Re → Prop} (hck : 1 ≤ c ∧ 6 ≤ k) {h : mm_S} : ∀ (n : Nat) (x0 : Nat) (x1 : Int32) (x2 : Int32) (x3 : Int32) (x4 : Int32) (o : Int32), F_X5_bestLevy_L24 h n x0 x1 x2 x3 x4 = some o → (mm_Ex (mm_Run X (d + 5)) 92 Q (66, [], [(2, .int o)], h) c k) → mm_Ex (mm_Run X (d + 5)) 92 Q (24, [], [(0, .ref x0), (1, .int x1), (2, .int x2), (3, .int x3), (4, .int x4)], h) c k := by
  intro n
  induction n with
  | zero => intro x0 x1 x2 x3 x4 o hF; cases hF
  | succ n ih =>
    intro x0 x1 x2 x3 x4 o hF hE
    unfold F_X5_bestLevy_L24 at hF
    refine go_adv hX c_92 2 (F2 := (27, [.ref x0, .int x4], [(0, .ref x0), (1, .int x1), (2, .int x2), (3, .int x3), (4, .int x4)], h)) rfl ?_
    obtain ⟨v4, e5, hF⟩ := mm_bind hF
    refine go_gR hX c_92 rfl e5 ?_
    obtain ⟨v6, e7, hF⟩ := mm_bind hF
    refine go_gI hX c_92 rfl e7 ?_
    rcases mm_ite hF with ⟨hc8, hF⟩ | ⟨hc8, hF⟩
    · refine go_ct hX 66 c_92 rfl rfl hc8 ?_
      cases hF
      refine go_ls [(2, .int x2)] ⟨rfl, trivial⟩ ?_
      exact hE
    · refine go_cf hX c_92 rfl (by decide) hc8 ?_
      refine go_adv hX c_92 1 (F2 := (37, [.ref x0], [(0, .ref x0), (1, .int x1), (2, .int x2), (3, .int x3), (4, .int x4)], h)) rfl ?_
      obtain ⟨v9, e10, hF⟩ := mm_bind hF
      refine go_gR hX c_92 rfl e10 ?_
      refine go_adv hX c_92 2 (F2 := (43, [.int x4, .int x1, .ref v9], [(0, .ref x0), (1, .int x1), (2, .int x2), (3, .int x3), (4, .int x4)], h)) rfl ?_
      obtain ⟨_, e11, hF⟩ := mm_bind hF
      obtain ⟨v12, e13, hF⟩ := mm_bind hF
      refine go_cV hX (As := [.int x1, .int x4]) (rv := some (.int v12)) (h2 := h) (ci := 3) c_92 rfl (Nat.le_of_ble_eq_true rfl) rfl rfl e11 (by decide) (Nat.le_of_ble_eq_true rfl) (fun Q2 hQ2 => r_X3_levyToCome hX (d := d) e13 hQ2) ?_
      refine go_adv hX c_92 3 (F2 := (51, [.int x3, .int v12], [(5, .int v12), (0, .ref x0), (1, .int x1), (2, .int x2), (3, .int x3), (4, .int x4)], h)) rfl ?_
      rcases mm_ite hF with ⟨hc14, hF⟩ | ⟨hc14, hF⟩
      · refine go_ct hX 60 c_92 rfl rfl hc14 ?_
        refine go_adv hX c_92 1 (F2 := (63, [], [(4, .int (x4 + ki 1)), (5, .int v12), (0, .ref x0), (1, .int x1), (2, .int x2), (3, .int x3)], h)) rfl ?_
        refine go_to hX 24 c_92 rfl rfl ?_
        refine go_ls [(0, .ref x0), (1, .int x1), (2, .int x2), (3, .int x3), (4, .int (x4 + ki 1))] ⟨rfl, ⟨rfl, ⟨rfl, ⟨rfl, ⟨rfl, trivial⟩⟩⟩⟩⟩ ?_
        exact ih x0 x1 x2 x3 (x4 + ki 1) _ hF hE
      · refine go_cf hX c_92 rfl (by decide) hc14 ?_
        refine go_adv hX c_92 5 (F2 := (63, [], [(4, .int (x4 + ki 1)), (2, .int x4), (3, .int v12), (5, .int v12), (0, .ref x0), (1, .int x1)], h)) rfl ?_
        refine go_to hX 24 c_92 rfl rfl ?_
        refine go_ls [(0, .ref x0), (1, .int x1), (2, .int x4), (3, .int v12), (4, .int (x4 + ki 1))] ⟨rfl, ⟨rfl, ⟨rfl, ⟨rfl, ⟨rfl, trivial⟩⟩⟩⟩⟩ ?_
        exact ih x0 x1 x4 v12 (x4 + ki 1) _ hF hE
theorem r_X5_bestLevy {X : mm_Cl} (hX : mm_mono X) {d c k : Nat} {Q : mm_Re → Prop} (hck : 1 ≤ c ∧ 6 ≤ k) {h : mm_S} {x0 : Nat} {x1 : Int32} {o : (Int32 ⊕ String)} (hF : F_X5_bestLevy h x0 x1 = some o) (hQ : Q (fx_oI o, h)) : mm_Run X (d + 6) 92 c k [.ref x0, .int x1] h Q := by
  unfold F_X5_bestLevy at hF
  refine mm_Run_in (by decide) (by decide) (Nat.le_of_ble_eq_true rfl) ?_
  show mm_Ex (mm_Run X (d + 5)) 92 Q (0, [], [(0, .ref x0), (1, .int x1)], h) c k
  refine go_adv hX c_92 1 (F2 := (1, [.int x1], [(0, .ref x0), (1, .int x1)], h)) rfl ?_
  obtain ⟨v1, e2, hF⟩ := mm_bind hF
  refine go_cS hX (As := [.int x1]) (rv := some (.int v1)) (h2 := h) c_92 rfl (by decide) (Nat.le_of_ble_eq_true rfl) rfl rfl (Nat.le_of_ble_eq_true rfl) (fun Q2 hQ2 => r_X5_isGiant hX (d := (d + 3)) e2 hQ2) ?_
  rcases mm_ite hF with ⟨hc3, hF⟩ | ⟨hc3, hF⟩
  · refine go_zt hX 17 c_92 rfl rfl hc3 ?_
    refine go_adv hX c_92 6 (F2 := (24, [], [(4, .int (ki 0)), (3, .int (ki 0)), (2, .int (ki (-1))), (0, .ref x0), (1, .int x1)], h)) rfl ?_
    refine go_ls [(0, .ref x0), (1, .int x1), (2, .int (ki (-1))), (3, .int (ki 0)), (4, .int (ki 0))] ⟨rfl, ⟨rfl, ⟨rfl, ⟨rfl, ⟨rfl, trivial⟩⟩⟩⟩⟩ ?_
    obtain ⟨o15, e16, hF⟩ := mm_bind hF
    refine r_X5_bestLevy_L24 hX hck 1000 x0 x1 (ki (-1)) (ki 0) (ki 0) o15 e16 ?_
    refine go_adv hX c_92 2 (F2 := (68, [.int (ki (-1)), .int o15], [(2, .int o15)], h)) rfl ?_
    rcases mm_ite hF with ⟨hc17, hF⟩ | ⟨hc17, hF⟩
    · refine go_ct hX 82 c_92 rfl rfl hc17 ?_
      refine go_adv hX c_92 1 (F2 := (83, [.int o15], [(2, .int o15)], h)) rfl ?_
      cases hF
      exact go_iret hX c_92 rfl rfl rfl hQ
    · refine go_cf hX c_92 rfl (by decide) hc17 ?_
      cases hF
      exact go_thr hX "java/util/NoSuchElementException" c_92 rfl (by decide) rfl (Nat.le_of_ble_eq_true rfl) hck hQ
  · refine go_zf hX c_92 rfl (by decide) hc3 ?_
    cases hF
    exact go_thr hX "java/lang/IndexOutOfBoundsException" c_92 rfl (by decide) rfl (Nat.le_of_ble_eq_true rfl) hck hQ
theorem c_93 : mm_cd 93 = k_X5_canTake := rfl
def F_X5_canTake (h : mm_S) (x0 : Nat) (x1 : Int32) : Option (Int32 ⊕ String) :=
  (F_X5_isLanding h x1).bind fun v1 =>
  if v1 ≠ 0 then
    (fx_gR h x0 5 0).bind fun v4 =>
    (fx_is h v4 3).bind fun _ =>
    (F_X3_whyNotTake h v4 x1).bind fun v7 =>
    if (lg_cmp v7 (kl 0)) ≠ 0 then
      some (.inl (ki 0))
    else
      some (.inl (ki 1))
  else
    some (.inr "java/lang/IndexOutOfBoundsException")
theorem r_X5_canTake {X : mm_Cl} (hX : mm_mono X) {d c k : Nat} {Q : mm_Re → Prop} (hck : 1 ≤ c ∧ 6 ≤ k) {h : mm_S} {x0 : Nat} {x1 : Int32} {o : (Int32 ⊕ String)} (hF : F_X5_canTake h x0 x1 = some o) (hQ : Q (fx_oI o, h)) : mm_Run X (d + 5) 93 c k [.ref x0, .int x1] h Q := by
  unfold F_X5_canTake at hF
  refine mm_Run_in (by decide) (by decide) (Nat.le_of_ble_eq_true rfl) ?_
  show mm_Ex (mm_Run X (d + 4)) 93 Q (0, [], [(0, .ref x0), (1, .int x1)], h) c k
  refine go_adv hX c_93 1 (F2 := (1, [.int x1], [(0, .ref x0), (1, .int x1)], h)) rfl ?_
  obtain ⟨v1, e2, hF⟩ := mm_bind hF
  refine go_cS hX (As := [.int x1]) (rv := some (.int v1)) (h2 := h) c_93 rfl (by decide) (Nat.le_of_ble_eq_true rfl) rfl rfl (Nat.le_of_ble_eq_true rfl) (fun Q2 hQ2 => r_X5_isLanding hX (d := (d + 2)) e2 hQ2) ?_
  rcases mm_ite hF with ⟨hc3, hF⟩ | ⟨hc3, hF⟩
  · refine go_zt hX 17 c_93 rfl rfl hc3 ?_
    refine go_adv hX c_93 1 (F2 := (18, [.ref x0], [(0, .ref x0), (1, .int x1)], h)) rfl ?_
    obtain ⟨v4, e5, hF⟩ := mm_bind hF
    refine go_gR hX c_93 rfl e5 ?_
    refine go_adv hX c_93 1 (F2 := (22, [.int x1, .ref v4], [(0, .ref x0), (1, .int x1)], h)) rfl ?_
    obtain ⟨_, e6, hF⟩ := mm_bind hF
    obtain ⟨v7, e8, hF⟩ := mm_bind hF
    refine go_cV hX (As := [.int x1]) (rv := some (.long v7)) (h2 := h) (ci := 3) c_93 rfl (Nat.le_of_ble_eq_true rfl) rfl rfl e6 (by decide) (Nat.le_of_ble_eq_true rfl) (fun Q2 hQ2 => r_X3_whyNotTake hX (d := d) e8 hQ2) ?_
    refine go_adv hX c_93 2 (F2 := (27, [.int (lg_cmp v7 (kl 0))], [(0, .ref x0), (1, .int x1)], h)) rfl ?_
    rcases mm_ite hF with ⟨hc9, hF⟩ | ⟨hc9, hF⟩
    · refine go_zt hX 34 c_93 rfl rfl hc9 ?_
      refine go_adv hX c_93 1 (F2 := (35, [.int (ki 0)], [(0, .ref x0), (1, .int x1)], h)) rfl ?_
      cases hF
      exact go_iret hX c_93 rfl rfl (by decide) hQ
    · refine go_zf hX c_93 rfl (by decide) hc9 ?_
      refine go_adv hX c_93 1 (F2 := (31, [.int (ki 1)], [(0, .ref x0), (1, .int x1)], h)) rfl ?_
      refine go_to hX 35 c_93 rfl rfl ?_
      cases hF
      exact go_iret hX c_93 rfl rfl (by decide) hQ
  · refine go_zf hX c_93 rfl (by decide) hc3 ?_
    cases hF
    exact go_thr hX "java/lang/IndexOutOfBoundsException" c_93 rfl (by decide) rfl (Nat.le_of_ble_eq_true rfl) hck hQ
theorem c_94 : mm_cd 94 = k_X5_takable := rfl
def F_X5_takable_L4 (h : mm_S) : Nat → Nat → Int32 → Int32 → Option Int32
  | 0, _, _, _ => none
  | n + 1, x0, x1, x2 =>
    if (kb 8) ≤ x2 then
      some x1
    else
      (fx_gR h x0 5 0).bind fun v2 =>
      (fx_is h v2 3).bind fun _ =>
      (F_X3_whyNotTake h v2 x2).bind fun v5 =>
      if (lg_cmp v5 (kl 0)) ≠ 0 then
        F_X5_takable_L4 h n x0 x1 (x2 + ki 1)
      else
        F_X5_takable_L4 h n x0 (x1 ||| ((ki 1) <<< (x2 &&& 31))) (x2 + ki 1)
def F_X5_takable (h : mm_S) (x0 : Nat) : Option Int32 :=
  (F_X5_takable_L4 h 1000 x0 (ki 0) (ki 0)).bind fun o8 =>
  some o8
theorem r_X5_takable_L4 {X : mm_Cl} (hX : mm_mono X) {d c k : Nat} {Q : mm_Re → Prop} {h : mm_S} : ∀ (n : Nat) (x0 : Nat) (x1 : Int32) (x2 : Int32) (o : Int32), F_X5_takable_L4 h n x0 x1 x2 = some o → (mm_Ex (mm_Run X (d + 4)) 94 Q (35, [], [(1, .int o)], h) c k) → mm_Ex (mm_Run X (d + 4)) 94 Q (4, [], [(0, .ref x0), (1, .int x1), (2, .int x2)], h) c k := by
  intro n
  induction n with
  | zero => intro x0 x1 x2 o hF; cases hF
  | succ n ih =>
    intro x0 x1 x2 o hF hE
    unfold F_X5_takable_L4 at hF
    refine go_adv hX c_94 2 (F2 := (7, [.int (kb 8), .int x2], [(0, .ref x0), (1, .int x1), (2, .int x2)], h)) rfl ?_
    rcases mm_ite hF with ⟨hc1, hF⟩ | ⟨hc1, hF⟩
    · refine go_ct hX 35 c_94 rfl rfl hc1 ?_
      cases hF
      refine go_ls [(1, .int x1)] ⟨rfl, trivial⟩ ?_
      exact hE
    · refine go_cf hX c_94 rfl (by decide) hc1 ?_
      refine go_adv hX c_94 1 (F2 := (11, [.ref x0], [(0, .ref x0), (1, .int x1), (2, .int x2)], h)) rfl ?_
      obtain ⟨v2, e3, hF⟩ := mm_bind hF
      refine go_gR hX c_94 rfl e3 ?_
      refine go_adv hX c_94 1 (F2 := (15, [.int x2, .ref v2], [(0, .ref x0), (1, .int x1), (2, .int x2)], h)) rfl ?_
      obtain ⟨_, e4, hF⟩ := mm_bind hF
      obtain ⟨v5, e6, hF⟩ := mm_bind hF
      refine go_cV hX (As := [.int x2]) (rv := some (.long v5)) (h2 := h) (ci := 3) c_94 rfl (Nat.le_of_ble_eq_true rfl) rfl rfl e4 (by decide) (Nat.le_of_ble_eq_true rfl) (fun Q2 hQ2 => r_X3_whyNotTake hX (d := d) e6 hQ2) ?_
      refine go_adv hX c_94 2 (F2 := (20, [.int (lg_cmp v5 (kl 0))], [(0, .ref x0), (1, .int x1), (2, .int x2)], h)) rfl ?_
      rcases mm_ite hF with ⟨hc7, hF⟩ | ⟨hc7, hF⟩
      · refine go_zt hX 29 c_94 rfl rfl hc7 ?_
        refine go_adv hX c_94 1 (F2 := (32, [], [(2, .int (x2 + ki 1)), (0, .ref x0), (1, .int x1)], h)) rfl ?_
        refine go_to hX 4 c_94 rfl rfl ?_
        refine go_ls [(0, .ref x0), (1, .int x1), (2, .int (x2 + ki 1))] ⟨rfl, ⟨rfl, ⟨rfl, trivial⟩⟩⟩ ?_
        exact ih x0 x1 (x2 + ki 1) _ hF hE
      · refine go_zf hX c_94 rfl (by decide) hc7 ?_
        refine go_adv hX c_94 7 (F2 := (32, [], [(2, .int (x2 + ki 1)), (1, .int (x1 ||| ((ki 1) <<< (x2 &&& 31)))), (0, .ref x0)], h)) rfl ?_
        refine go_to hX 4 c_94 rfl rfl ?_
        refine go_ls [(0, .ref x0), (1, .int (x1 ||| ((ki 1) <<< (x2 &&& 31)))), (2, .int (x2 + ki 1))] ⟨rfl, ⟨rfl, ⟨rfl, trivial⟩⟩⟩ ?_
        exact ih x0 (x1 ||| ((ki 1) <<< (x2 &&& 31))) (x2 + ki 1) _ hF hE
theorem r_X5_takable {X : mm_Cl} (hX : mm_mono X) {d c k : Nat} {Q : mm_Re → Prop} {h : mm_S} {x0 : Nat} {o : Int32} (hF : F_X5_takable h x0 = some o) (hQ : Q (.inl (some (.int o)), h)) : mm_Run X (d + 5) 94 c k [.ref x0] h Q := by
  unfold F_X5_takable at hF
  refine mm_Run_in (by decide) (by decide) (Nat.le_of_ble_eq_true rfl) ?_
  show mm_Ex (mm_Run X (d + 4)) 94 Q (0, [], [(0, .ref x0)], h) c k
  refine go_adv hX c_94 4 (F2 := (4, [], [(2, .int (ki 0)), (1, .int (ki 0)), (0, .ref x0)], h)) rfl ?_
  refine go_ls [(0, .ref x0), (1, .int (ki 0)), (2, .int (ki 0))] ⟨rfl, ⟨rfl, ⟨rfl, trivial⟩⟩⟩ ?_
  obtain ⟨o8, e9, hF⟩ := mm_bind hF
  refine r_X5_takable_L4 hX 1000 x0 (ki 0) (ki 0) o8 e9 ?_
  refine go_adv hX c_94 1 (F2 := (36, [.int o8], [(1, .int o8)], h)) rfl ?_
  cases hF
  exact go_iret hX c_94 rfl rfl rfl hQ
theorem c_95 : mm_cd 95 = k_X5_turn := rfl
def F_X5_turn (h : mm_S) (x0 : Nat) : Option Int32 :=
  (fx_gR h x0 5 0).bind fun v1 =>
  (fx_gI h v1 3 5).bind fun v3 =>
  some v3
theorem r_X5_turn {X : mm_Cl} (hX : mm_mono X) {d c k : Nat} {Q : mm_Re → Prop} {h : mm_S} {x0 : Nat} {o : Int32} (hF : F_X5_turn h x0 = some o) (hQ : Q (.inl (some (.int o)), h)) : mm_Run X (d + 1) 95 c k [.ref x0] h Q := by
  unfold F_X5_turn at hF
  refine mm_Run_in (by decide) (by decide) (Nat.le_of_ble_eq_true rfl) ?_
  show mm_Ex (mm_Run X d) 95 Q (0, [], [(0, .ref x0)], h) c k
  refine go_adv hX c_95 1 (F2 := (1, [.ref x0], [(0, .ref x0)], h)) rfl ?_
  obtain ⟨v1, e2, hF⟩ := mm_bind hF
  refine go_gR hX c_95 rfl e2 ?_
  obtain ⟨v3, e4, hF⟩ := mm_bind hF
  refine go_gI hX c_95 rfl e4 ?_
  cases hF
  exact go_iret hX c_95 rfl rfl rfl hQ
theorem c_96 : mm_cd 96 = k_X5_ranked := rfl
def F_X5_ranked_L25 (h : mm_S) : Nat → Nat → Int32 → Int32 → Int32 → Int32 → Option Int32
  | 0, _, _, _, _, _ => none
  | n + 1, x0, x1, x2, x3, x4 =>
    (fx_gR h x0 5 0).bind fun v4 =>
    (fx_gI h v4 3 3).bind fun v6 =>
    if v6 ≤ x4 then
      some x3
    else
      (fx_gR h x0 5 0).bind fun v9 =>
      (fx_is h v9 3).bind fun _ =>
      (F_X3_placeOf h v9 x4 x1).bind fun v12 =>
      if v12 ≠ x2 then
        F_X5_ranked_L25 h n x0 x1 x2 x3 (x4 + ki 1)
      else
        F_X5_ranked_L25 h n x0 x1 x2 x4 (x4 + ki 1)
def F_X5_ranked (h : mm_S) (x0 : Nat) (x1 : Int32) (x2 : Int32) : Option (Int32 ⊕ String) :=
  (F_X5_isInRange h x1 (ki 0) (ki 3)).bind fun v1 =>
  if v1 ≠ 0 then
    (F_X5_ranked_L25 h 1000 x0 x1 x2 (ki (-1)) (ki 0)).bind fun o15 =>
    if o15 ≠ (ki (-1)) then
      some (.inl o15)
    else
      some (.inr "java/util/NoSuchElementException")
  else
    some (.inr "java/lang/IllegalArgumentException")
theorem r_X5_ranked_L25 {X : mm_Cl} (hX : mm_mono X) {d c k : Nat} {Q : mm_Re → Prop} (hck : 1 ≤ c ∧ 6 ≤ k) {h : mm_S} : ∀ (n : Nat) (x0 : Nat) (x1 : Int32) (x2 : Int32) (x3 : Int32) (x4 : Int32) (o : Int32), F_X5_ranked_L25 h n x0 x1 x2 x3 x4 = some o → (mm_Ex (mm_Run X (d + 3)) 96 Q (60, [], [(3, .int o)], h) c k) → mm_Ex (mm_Run X (d + 3)) 96 Q (25, [], [(0, .ref x0), (1, .int x1), (2, .int x2), (3, .int x3), (4, .int x4)], h) c k := by
  intro n
  induction n with
  | zero => intro x0 x1 x2 x3 x4 o hF; cases hF
  | succ n ih =>
    intro x0 x1 x2 x3 x4 o hF hE
    unfold F_X5_ranked_L25 at hF
    refine go_adv hX c_96 2 (F2 := (28, [.ref x0, .int x4], [(0, .ref x0), (1, .int x1), (2, .int x2), (3, .int x3), (4, .int x4)], h)) rfl ?_
    obtain ⟨v4, e5, hF⟩ := mm_bind hF
    refine go_gR hX c_96 rfl e5 ?_
    obtain ⟨v6, e7, hF⟩ := mm_bind hF
    refine go_gI hX c_96 rfl e7 ?_
    rcases mm_ite hF with ⟨hc8, hF⟩ | ⟨hc8, hF⟩
    · refine go_ct hX 60 c_96 rfl rfl hc8 ?_
      cases hF
      refine go_ls [(3, .int x3)] ⟨rfl, trivial⟩ ?_
      exact hE
    · refine go_cf hX c_96 rfl (by decide) hc8 ?_
      refine go_adv hX c_96 1 (F2 := (38, [.ref x0], [(0, .ref x0), (1, .int x1), (2, .int x2), (3, .int x3), (4, .int x4)], h)) rfl ?_
      obtain ⟨v9, e10, hF⟩ := mm_bind hF
      refine go_gR hX c_96 rfl e10 ?_
      refine go_adv hX c_96 2 (F2 := (44, [.int x1, .int x4, .ref v9], [(0, .ref x0), (1, .int x1), (2, .int x2), (3, .int x3), (4, .int x4)], h)) rfl ?_
      obtain ⟨_, e11, hF⟩ := mm_bind hF
      obtain ⟨v12, e13, hF⟩ := mm_bind hF
      refine go_cV hX (As := [.int x4, .int x1]) (rv := some (.int v12)) (h2 := h) (ci := 3) c_96 rfl (Nat.le_of_ble_eq_true rfl) rfl rfl e11 (by decide) (Nat.le_of_ble_eq_true rfl) (fun Q2 hQ2 => r_X3_placeOf hX (d := d) e13 hQ2) ?_
      refine go_adv hX c_96 1 (F2 := (48, [.int x2, .int v12], [(0, .ref x0), (1, .int x1), (2, .int x2), (3, .int x3), (4, .int x4)], h)) rfl ?_
      rcases mm_ite hF with ⟨hc14, hF⟩ | ⟨hc14, hF⟩
      · refine go_ct hX 54 c_96 rfl rfl hc14 ?_
        refine go_adv hX c_96 1 (F2 := (57, [], [(4, .int (x4 + ki 1)), (0, .ref x0), (1, .int x1), (2, .int x2), (3, .int x3)], h)) rfl ?_
        refine go_to hX 25 c_96 rfl rfl ?_
        refine go_ls [(0, .ref x0), (1, .int x1), (2, .int x2), (3, .int x3), (4, .int (x4 + ki 1))] ⟨rfl, ⟨rfl, ⟨rfl, ⟨rfl, ⟨rfl, trivial⟩⟩⟩⟩⟩ ?_
        exact ih x0 x1 x2 x3 (x4 + ki 1) _ hF hE
      · refine go_cf hX c_96 rfl (by decide) hc14 ?_
        refine go_adv hX c_96 3 (F2 := (57, [], [(4, .int (x4 + ki 1)), (3, .int x4), (0, .ref x0), (1, .int x1), (2, .int x2)], h)) rfl ?_
        refine go_to hX 25 c_96 rfl rfl ?_
        refine go_ls [(0, .ref x0), (1, .int x1), (2, .int x2), (3, .int x4), (4, .int (x4 + ki 1))] ⟨rfl, ⟨rfl, ⟨rfl, ⟨rfl, ⟨rfl, trivial⟩⟩⟩⟩⟩ ?_
        exact ih x0 x1 x2 x4 (x4 + ki 1) _ hF hE
theorem r_X5_ranked {X : mm_Cl} (hX : mm_mono X) {d c k : Nat} {Q : mm_Re → Prop} (hck : 1 ≤ c ∧ 6 ≤ k) {h : mm_S} {x0 : Nat} {x1 : Int32} {x2 : Int32} {o : (Int32 ⊕ String)} (hF : F_X5_ranked h x0 x1 x2 = some o) (hQ : Q (fx_oI o, h)) : mm_Run X (d + 4) 96 c k [.ref x0, .int x1, .int x2] h Q := by
  unfold F_X5_ranked at hF
  refine mm_Run_in (by decide) (by decide) (Nat.le_of_ble_eq_true rfl) ?_
  show mm_Ex (mm_Run X (d + 3)) 96 Q (0, [], [(0, .ref x0), (1, .int x1), (2, .int x2)], h) c k
  refine go_adv hX c_96 3 (F2 := (3, [.int (ki 3), .int (ki 0), .int x1], [(0, .ref x0), (1, .int x1), (2, .int x2)], h)) rfl ?_
  obtain ⟨v1, e2, hF⟩ := mm_bind hF
  refine go_cS hX (As := [.int x1, .int (ki 0), .int (ki 3)]) (rv := some (.int v1)) (h2 := h) c_96 rfl (by decide) (Nat.le_of_ble_eq_true rfl) rfl rfl (Nat.le_of_ble_eq_true rfl) (fun Q2 hQ2 => r_X5_isInRange hX (d := (d + 2)) e2 hQ2) ?_
  rcases mm_ite hF with ⟨hc3, hF⟩ | ⟨hc3, hF⟩
  · refine go_zt hX 20 c_96 rfl rfl hc3 ?_
    refine go_adv hX c_96 4 (F2 := (25, [], [(4, .int (ki 0)), (3, .int (ki (-1))), (0, .ref x0), (1, .int x1), (2, .int x2)], h)) rfl ?_
    refine go_ls [(0, .ref x0), (1, .int x1), (2, .int x2), (3, .int (ki (-1))), (4, .int (ki 0))] ⟨rfl, ⟨rfl, ⟨rfl, ⟨rfl, ⟨rfl, trivial⟩⟩⟩⟩⟩ ?_
    obtain ⟨o15, e16, hF⟩ := mm_bind hF
    refine r_X5_ranked_L25 hX hck 1000 x0 x1 x2 (ki (-1)) (ki 0) o15 e16 ?_
    refine go_adv hX c_96 2 (F2 := (62, [.int (ki (-1)), .int o15], [(3, .int o15)], h)) rfl ?_
    rcases mm_ite hF with ⟨hc17, hF⟩ | ⟨hc17, hF⟩
    · refine go_ct hX 76 c_96 rfl rfl hc17 ?_
      refine go_adv hX c_96 1 (F2 := (77, [.int o15], [(3, .int o15)], h)) rfl ?_
      cases hF
      exact go_iret hX c_96 rfl rfl rfl hQ
    · refine go_cf hX c_96 rfl (by decide) hc17 ?_
      cases hF
      exact go_thr hX "java/util/NoSuchElementException" c_96 rfl (by decide) rfl (Nat.le_of_ble_eq_true rfl) hck hQ
  · refine go_zf hX c_96 rfl (by decide) hc3 ?_
    cases hF
    exact go_thr hX "java/lang/IllegalArgumentException" c_96 rfl (by decide) rfl (Nat.le_of_ble_eq_true rfl) hck hQ
theorem c_115 : mm_cd 115 = k_X5_areStepsTold := rfl
def F_X5_areStepsTold_L34 : Nat → Nat → Int32 → Int32 → mm_S → Option ((Int32 × mm_S) ⊕ mm_S)
  | 0, _, _, _, _ => none
  | n + 1, x0, x1, x2, h =>
    if (kb 8) ≤ x2 then
      some (.inr h)
    else
      (fx_gR h x0 5 7).bind fun v17 =>
      (fx_gR h v17 4 0).bind fun v19 =>
      (fx_aI h v19 x2).bind fun v21 =>
      (fx_gR h x0 5 7).bind fun v23 =>
      (fx_gR h v23 4 3).bind fun v25 =>
      (fx_aR h v25 x1).bind fun v27 =>
      (fx_aI h v27 x2).bind fun v29 =>
      if v21 = v29 then
        F_X5_areStepsTold_L34 n x0 x1 (x2 + ki 1) h
      else
        some (.inl (ki 0, h))
def F_X5_areStepsTold_L13 : Nat → Nat → Int32 → mm_S → Option ((Int32 × mm_S) ⊕ mm_S)
  | 0, _, _, _ => none
  | n + 1, x0, x1, h =>
    if (kb 8) ≤ x1 then
      some (.inr h)
    else
      (fx_gR h x0 5 7).bind fun v9 =>
      (fx_gR h x0 5 0).bind fun v11 =>
      (fx_is h v9 4).bind fun _ =>
      (F_X4_goNearestFirst h v9 v11 (ki (-1)) x1).bind fun v14 =>
      (F_X5_areStepsTold_L34 1000 x0 x1 (ki 0) v14).bind fun o32 => match o32 with
        | .inl o32r => some (.inl o32r)
        | .inr o32e =>
          F_X5_areStepsTold_L13 n x0 (x1 + ki 1) o32e
def F_X5_areStepsTold (h : mm_S) (x0 : Nat) : Option (Int32 × mm_S) :=
  (fx_gR h x0 5 7).bind fun v1 =>
  (fx_gR h x0 5 0).bind fun v3 =>
  (fx_is h v1 4).bind fun _ =>
  (F_X4_goOverMoreAndMore h v1 v3).bind fun v6 =>
  (F_X5_areStepsTold_L13 1000 x0 (ki 0) v6).bind fun o34 => match o34 with
    | .inl o34r => some o34r
    | .inr o34e =>
      some (ki 1, o34e)
theorem r_X5_areStepsTold_L34 {X : mm_Cl} (hX : mm_mono X) {d c k : Nat} {Q : mm_Re → Prop} : ∀ (n : Nat) (x0 : Nat) (x1 : Int32) (x2 : Int32) (h : mm_S) (o : ((Int32 × mm_S) ⊕ mm_S)), F_X5_areStepsTold_L34 n x0 x1 x2 h = some o → (∀ r, o = .inl r → Q (.inl (some (.int r.1)), r.2)) → (∀ e, o = .inr e → mm_Ex (mm_Run X (d + 4)) 115 Q (71, [], [(0, .ref x0), (1, .int x1)], e) c k) → mm_Ex (mm_Run X (d + 4)) 115 Q (34, [], [(0, .ref x0), (1, .int x1), (2, .int x2)], h) c k := by
  intro n
  induction n with
  | zero => intro x0 x1 x2 h o hF; cases hF
  | succ n ih =>
    intro x0 x1 x2 h o hF hR hE
    unfold F_X5_areStepsTold_L34 at hF
    refine go_adv hX c_115 2 (F2 := (37, [.int (kb 8), .int x2], [(0, .ref x0), (1, .int x1), (2, .int x2)], h)) rfl ?_
    rcases mm_ite hF with ⟨hc16, hF⟩ | ⟨hc16, hF⟩
    · refine go_ct hX 71 c_115 rfl rfl hc16 ?_
      cases hF
      refine go_ls [(0, .ref x0), (1, .int x1)] ⟨rfl, ⟨rfl, trivial⟩⟩ ?_
      exact hE _ rfl
    · refine go_cf hX c_115 rfl (by decide) hc16 ?_
      refine go_adv hX c_115 1 (F2 := (41, [.ref x0], [(0, .ref x0), (1, .int x1), (2, .int x2)], h)) rfl ?_
      obtain ⟨v17, e18, hF⟩ := mm_bind hF
      refine go_gR hX c_115 rfl e18 ?_
      obtain ⟨v19, e20, hF⟩ := mm_bind hF
      refine go_gR hX c_115 rfl e20 ?_
      refine go_adv hX c_115 1 (F2 := (48, [.int x2, .ref v19], [(0, .ref x0), (1, .int x1), (2, .int x2)], h)) rfl ?_
      obtain ⟨v21, e22, hF⟩ := mm_bind hF
      refine go_aI hX c_115 rfl e22 ?_
      refine go_adv hX c_115 1 (F2 := (50, [.ref x0, .int v21], [(0, .ref x0), (1, .int x1), (2, .int x2)], h)) rfl ?_
      obtain ⟨v23, e24, hF⟩ := mm_bind hF
      refine go_gR hX c_115 rfl e24 ?_
      obtain ⟨v25, e26, hF⟩ := mm_bind hF
      refine go_gR hX c_115 rfl e26 ?_
      refine go_adv hX c_115 1 (F2 := (57, [.int x1, .ref v25, .int v21], [(0, .ref x0), (1, .int x1), (2, .int x2)], h)) rfl ?_
      obtain ⟨v27, e28, hF⟩ := mm_bind hF
      refine go_aR hX c_115 rfl e28 ?_
      refine go_adv hX c_115 1 (F2 := (59, [.int x2, .ref v27, .int v21], [(0, .ref x0), (1, .int x1), (2, .int x2)], h)) rfl ?_
      obtain ⟨v29, e30, hF⟩ := mm_bind hF
      refine go_aI hX c_115 rfl e30 ?_
      rcases mm_ite hF with ⟨hc31, hF⟩ | ⟨hc31, hF⟩
      · refine go_ct hX 65 c_115 rfl rfl hc31 ?_
        refine go_adv hX c_115 1 (F2 := (68, [], [(2, .int (x2 + ki 1)), (0, .ref x0), (1, .int x1)], h)) rfl ?_
        refine go_to hX 34 c_115 rfl rfl ?_
        refine go_ls [(0, .ref x0), (1, .int x1), (2, .int (x2 + ki 1))] ⟨rfl, ⟨rfl, ⟨rfl, trivial⟩⟩⟩ ?_
        exact ih x0 x1 (x2 + ki 1) h _ hF hR hE
      · refine go_cf hX c_115 rfl (by decide) hc31 ?_
        refine go_adv hX c_115 1 (F2 := (64, [.int (ki 0)], [(0, .ref x0), (1, .int x1), (2, .int x2)], h)) rfl ?_
        cases hF
        have hQ := hR _ rfl
        exact go_iret hX c_115 rfl rfl (by decide) hQ
theorem r_X5_areStepsTold_L13 {X : mm_Cl} (hX : mm_mono X) {d c k : Nat} {Q : mm_Re → Prop} : ∀ (n : Nat) (x0 : Nat) (x1 : Int32) (h : mm_S) (o : ((Int32 × mm_S) ⊕ mm_S)), F_X5_areStepsTold_L13 n x0 x1 h = some o → (∀ r, o = .inl r → Q (.inl (some (.int r.1)), r.2)) → (∀ e, o = .inr e → mm_Ex (mm_Run X (d + 4)) 115 Q (77, [], [], e) c k) → mm_Ex (mm_Run X (d + 4)) 115 Q (13, [], [(0, .ref x0), (1, .int x1)], h) c k := by
  intro n
  induction n with
  | zero => intro x0 x1 h o hF; cases hF
  | succ n ih =>
    intro x0 x1 h o hF hR hE
    unfold F_X5_areStepsTold_L13 at hF
    refine go_adv hX c_115 2 (F2 := (16, [.int (kb 8), .int x1], [(0, .ref x0), (1, .int x1)], h)) rfl ?_
    rcases mm_ite hF with ⟨hc8, hF⟩ | ⟨hc8, hF⟩
    · refine go_ct hX 77 c_115 rfl rfl hc8 ?_
      cases hF
      refine go_ls [] trivial ?_
      exact hE _ rfl
    · refine go_cf hX c_115 rfl (by decide) hc8 ?_
      refine go_adv hX c_115 1 (F2 := (20, [.ref x0], [(0, .ref x0), (1, .int x1)], h)) rfl ?_
      obtain ⟨v9, e10, hF⟩ := mm_bind hF
      refine go_gR hX c_115 rfl e10 ?_
      refine go_adv hX c_115 1 (F2 := (24, [.ref x0, .ref v9], [(0, .ref x0), (1, .int x1)], h)) rfl ?_
      obtain ⟨v11, e12, hF⟩ := mm_bind hF
      refine go_gR hX c_115 rfl e12 ?_
      refine go_adv hX c_115 2 (F2 := (29, [.int x1, .int (ki (-1)), .ref v11, .ref v9], [(0, .ref x0), (1, .int x1)], h)) rfl ?_
      obtain ⟨_, e13, hF⟩ := mm_bind hF
      obtain ⟨v14, e15, hF⟩ := mm_bind hF
      refine go_cV hX (As := [.ref v11, .int (ki (-1)), .int x1]) (rv := none) (h2 := v14) (ci := 4) c_115 rfl (Nat.le_of_ble_eq_true rfl) rfl rfl e13 (by decide) (Nat.le_of_ble_eq_true rfl) (fun Q2 hQ2 => r_X4_goNearestFirst hX (d := d) e15 hQ2) ?_
      refine go_adv hX c_115 2 (F2 := (34, [], [(2, .int (ki 0)), (0, .ref x0), (1, .int x1)], v14)) rfl ?_
      refine go_ls [(0, .ref x0), (1, .int x1), (2, .int (ki 0))] ⟨rfl, ⟨rfl, ⟨rfl, trivial⟩⟩⟩ ?_
      obtain ⟨o32, e33, hF⟩ := mm_bind hF
      refine r_X5_areStepsTold_L34 hX 1000 x0 x1 (ki 0) v14 o32 e33 ?_ ?_
      · intro o32r hr
        subst hr
        dsimp only at hF
        cases hF
        have hQ := hR _ rfl
        exact hQ
      · intro o32e he
        subst he
        dsimp only at hF
        refine go_adv hX c_115 1 (F2 := (74, [], [(1, .int (x1 + ki 1)), (0, .ref x0)], o32e)) rfl ?_
        refine go_to hX 13 c_115 rfl rfl ?_
        refine go_ls [(0, .ref x0), (1, .int (x1 + ki 1))] ⟨rfl, ⟨rfl, trivial⟩⟩ ?_
        exact ih x0 (x1 + ki 1) o32e _ hF hR hE
theorem r_X5_areStepsTold {X : mm_Cl} (hX : mm_mono X) {d c k : Nat} {Q : mm_Re → Prop} {h : mm_S} {x0 : Nat} {o : (Int32 × mm_S)} (hF : F_X5_areStepsTold h x0 = some o) (hQ : Q (.inl (some (.int o.1)), o.2)) : mm_Run X (d + 5) 115 c k [.ref x0] h Q := by
  unfold F_X5_areStepsTold at hF
  refine mm_Run_in (by decide) (by decide) (Nat.le_of_ble_eq_true rfl) ?_
  show mm_Ex (mm_Run X (d + 4)) 115 Q (0, [], [(0, .ref x0)], h) c k
  refine go_adv hX c_115 1 (F2 := (1, [.ref x0], [(0, .ref x0)], h)) rfl ?_
  obtain ⟨v1, e2, hF⟩ := mm_bind hF
  refine go_gR hX c_115 rfl e2 ?_
  refine go_adv hX c_115 1 (F2 := (5, [.ref x0, .ref v1], [(0, .ref x0)], h)) rfl ?_
  obtain ⟨v3, e4, hF⟩ := mm_bind hF
  refine go_gR hX c_115 rfl e4 ?_
  obtain ⟨_, e5, hF⟩ := mm_bind hF
  obtain ⟨v6, e7, hF⟩ := mm_bind hF
  refine go_cV hX (As := [.ref v3]) (rv := none) (h2 := v6) (ci := 4) c_115 rfl (Nat.le_of_ble_eq_true rfl) rfl rfl e5 (by decide) (Nat.le_of_ble_eq_true rfl) (fun Q2 hQ2 => r_X4_goOverMoreAndMore hX (d := (d + 2)) e7 hQ2) ?_
  refine go_adv hX c_115 2 (F2 := (13, [], [(1, .int (ki 0)), (0, .ref x0)], v6)) rfl ?_
  refine go_ls [(0, .ref x0), (1, .int (ki 0))] ⟨rfl, ⟨rfl, trivial⟩⟩ ?_
  obtain ⟨o34, e35, hF⟩ := mm_bind hF
  refine r_X5_areStepsTold_L13 hX 1000 x0 (ki 0) v6 o34 e35 ?_ ?_
  · intro o34r hr
    subst hr
    dsimp only at hF
    cases hF
    exact hQ
  · intro o34e he
    subst he
    dsimp only at hF
    refine go_adv hX c_115 1 (F2 := (78, [.int (ki 1)], [], o34e)) rfl ?_
    cases hF
    exact go_iret hX c_115 rfl rfl (by decide) hQ
theorem c_116 : mm_cd 116 = k_X5_areBreathsTold := rfl
def F_X5_areBreathsTold_L38 : Nat → Nat → Int32 → mm_S → Option ((Int32 × mm_S) ⊕ mm_S)
  | 0, _, _, _ => none
  | n + 1, x0, x2, h =>
    if (kb 8) ≤ x2 then
      some (.inr h)
    else
      (fx_gR h x0 5 7).bind fun v24 =>
      (fx_gR h v24 4 0).bind fun v26 =>
      (fx_aI h v26 x2).bind fun v28 =>
      (fx_gR h x0 5 7).bind fun v30 =>
      (fx_gR h v30 4 2).bind fun v32 =>
      (fx_aI h v32 x2).bind fun v34 =>
      if v28 = v34 then
        F_X5_areBreathsTold_L38 n x0 (x2 + ki 1) h
      else
        some (.inl (ki 0, h))
def F_X5_areBreathsTold (h : mm_S) (x0 : Nat) (x1 : Int32) : Option (Int32 × mm_S) :=
  (fx_gR h x0 5 7).bind fun v1 =>
  (fx_gR h x0 5 0).bind fun v3 =>
  (fx_gR h x0 5 0).bind fun v5 =>
  (fx_gR h v5 3 0).bind fun v7 =>
  (fx_aR h v7 x1).bind fun v9 =>
  (fx_gI h v9 0 1).bind fun v11 =>
  (fx_is h v1 4).bind fun _ =>
  (F_X4_goNearestFirst h v1 v3 x1 v11).bind fun v14 =>
  (fx_gR v14 x0 5 7).bind fun v16 =>
  (fx_gR v14 x0 5 0).bind fun v18 =>
  (fx_is v14 v16 4).bind fun _ =>
  (F_X4_goAgainAndAgain v14 v16 v18 x1).bind fun v21 =>
  (F_X5_areBreathsTold_L38 1000 x0 (ki 0) v21).bind fun o37 => match o37 with
    | .inl o37r => some o37r
    | .inr o37e =>
      some (ki 1, o37e)
theorem r_X5_areBreathsTold_L38 {X : mm_Cl} (hX : mm_mono X) {d c k : Nat} {Q : mm_Re → Prop} : ∀ (n : Nat) (x0 : Nat) (x2 : Int32) (h : mm_S) (o : ((Int32 × mm_S) ⊕ mm_S)), F_X5_areBreathsTold_L38 n x0 x2 h = some o → (∀ r, o = .inl r → Q (.inl (some (.int r.1)), r.2)) → (∀ e, o = .inr e → mm_Ex (mm_Run X (d + 4)) 116 Q (73, [], [], e) c k) → mm_Ex (mm_Run X (d + 4)) 116 Q (38, [], [(0, .ref x0), (2, .int x2)], h) c k := by
  intro n
  induction n with
  | zero => intro x0 x2 h o hF; cases hF
  | succ n ih =>
    intro x0 x2 h o hF hR hE
    unfold F_X5_areBreathsTold_L38 at hF
    refine go_adv hX c_116 2 (F2 := (41, [.int (kb 8), .int x2], [(0, .ref x0), (2, .int x2)], h)) rfl ?_
    rcases mm_ite hF with ⟨hc23, hF⟩ | ⟨hc23, hF⟩
    · refine go_ct hX 73 c_116 rfl rfl hc23 ?_
      cases hF
      refine go_ls [] trivial ?_
      exact hE _ rfl
    · refine go_cf hX c_116 rfl (by decide) hc23 ?_
      refine go_adv hX c_116 1 (F2 := (45, [.ref x0], [(0, .ref x0), (2, .int x2)], h)) rfl ?_
      obtain ⟨v24, e25, hF⟩ := mm_bind hF
      refine go_gR hX c_116 rfl e25 ?_
      obtain ⟨v26, e27, hF⟩ := mm_bind hF
      refine go_gR hX c_116 rfl e27 ?_
      refine go_adv hX c_116 1 (F2 := (52, [.int x2, .ref v26], [(0, .ref x0), (2, .int x2)], h)) rfl ?_
      obtain ⟨v28, e29, hF⟩ := mm_bind hF
      refine go_aI hX c_116 rfl e29 ?_
      refine go_adv hX c_116 1 (F2 := (54, [.ref x0, .int v28], [(0, .ref x0), (2, .int x2)], h)) rfl ?_
      obtain ⟨v30, e31, hF⟩ := mm_bind hF
      refine go_gR hX c_116 rfl e31 ?_
      obtain ⟨v32, e33, hF⟩ := mm_bind hF
      refine go_gR hX c_116 rfl e33 ?_
      refine go_adv hX c_116 1 (F2 := (61, [.int x2, .ref v32, .int v28], [(0, .ref x0), (2, .int x2)], h)) rfl ?_
      obtain ⟨v34, e35, hF⟩ := mm_bind hF
      refine go_aI hX c_116 rfl e35 ?_
      rcases mm_ite hF with ⟨hc36, hF⟩ | ⟨hc36, hF⟩
      · refine go_ct hX 67 c_116 rfl rfl hc36 ?_
        refine go_adv hX c_116 1 (F2 := (70, [], [(2, .int (x2 + ki 1)), (0, .ref x0)], h)) rfl ?_
        refine go_to hX 38 c_116 rfl rfl ?_
        refine go_ls [(0, .ref x0), (2, .int (x2 + ki 1))] ⟨rfl, ⟨rfl, trivial⟩⟩ ?_
        exact ih x0 (x2 + ki 1) h _ hF hR hE
      · refine go_cf hX c_116 rfl (by decide) hc36 ?_
        refine go_adv hX c_116 1 (F2 := (66, [.int (ki 0)], [(0, .ref x0), (2, .int x2)], h)) rfl ?_
        cases hF
        have hQ := hR _ rfl
        exact go_iret hX c_116 rfl rfl (by decide) hQ
theorem r_X5_areBreathsTold {X : mm_Cl} (hX : mm_mono X) {d c k : Nat} {Q : mm_Re → Prop} {h : mm_S} {x0 : Nat} {x1 : Int32} {o : (Int32 × mm_S)} (hF : F_X5_areBreathsTold h x0 x1 = some o) (hQ : Q (.inl (some (.int o.1)), o.2)) : mm_Run X (d + 5) 116 c k [.ref x0, .int x1] h Q := by
  unfold F_X5_areBreathsTold at hF
  refine mm_Run_in (by decide) (by decide) (Nat.le_of_ble_eq_true rfl) ?_
  show mm_Ex (mm_Run X (d + 4)) 116 Q (0, [], [(0, .ref x0), (1, .int x1)], h) c k
  refine go_adv hX c_116 1 (F2 := (1, [.ref x0], [(0, .ref x0), (1, .int x1)], h)) rfl ?_
  obtain ⟨v1, e2, hF⟩ := mm_bind hF
  refine go_gR hX c_116 rfl e2 ?_
  refine go_adv hX c_116 1 (F2 := (5, [.ref x0, .ref v1], [(0, .ref x0), (1, .int x1)], h)) rfl ?_
  obtain ⟨v3, e4, hF⟩ := mm_bind hF
  refine go_gR hX c_116 rfl e4 ?_
  refine go_adv hX c_116 2 (F2 := (10, [.ref x0, .int x1, .ref v3, .ref v1], [(0, .ref x0), (1, .int x1)], h)) rfl ?_
  obtain ⟨v5, e6, hF⟩ := mm_bind hF
  refine go_gR hX c_116 rfl e6 ?_
  obtain ⟨v7, e8, hF⟩ := mm_bind hF
  refine go_gR hX c_116 rfl e8 ?_
  refine go_adv hX c_116 1 (F2 := (17, [.int x1, .ref v7, .int x1, .ref v3, .ref v1], [(0, .ref x0), (1, .int x1)], h)) rfl ?_
  obtain ⟨v9, e10, hF⟩ := mm_bind hF
  refine go_aR hX c_116 rfl e10 ?_
  obtain ⟨v11, e12, hF⟩ := mm_bind hF
  refine go_gI hX c_116 rfl e12 ?_
  obtain ⟨_, e13, hF⟩ := mm_bind hF
  obtain ⟨v14, e15, hF⟩ := mm_bind hF
  refine go_cV hX (As := [.ref v3, .int x1, .int v11]) (rv := none) (h2 := v14) (ci := 4) c_116 rfl (Nat.le_of_ble_eq_true rfl) rfl rfl e13 (by decide) (Nat.le_of_ble_eq_true rfl) (fun Q2 hQ2 => r_X4_goNearestFirst hX (d := d) e15 hQ2) ?_
  refine go_adv hX c_116 1 (F2 := (25, [.ref x0], [(0, .ref x0), (1, .int x1)], v14)) rfl ?_
  obtain ⟨v16, e17, hF⟩ := mm_bind hF
  refine go_gR hX c_116 rfl e17 ?_
  refine go_adv hX c_116 1 (F2 := (29, [.ref x0, .ref v16], [(0, .ref x0), (1, .int x1)], v14)) rfl ?_
  obtain ⟨v18, e19, hF⟩ := mm_bind hF
  refine go_gR hX c_116 rfl e19 ?_
  refine go_adv hX c_116 1 (F2 := (33, [.int x1, .ref v18, .ref v16], [(0, .ref x0), (1, .int x1)], v14)) rfl ?_
  obtain ⟨_, e20, hF⟩ := mm_bind hF
  obtain ⟨v21, e22, hF⟩ := mm_bind hF
  refine go_cV hX (As := [.ref v18, .int x1]) (rv := none) (h2 := v21) (ci := 4) c_116 rfl (Nat.le_of_ble_eq_true rfl) rfl rfl e20 (by decide) (Nat.le_of_ble_eq_true rfl) (fun Q2 hQ2 => r_X4_goAgainAndAgain hX (d := (d + 1)) e22 hQ2) ?_
  refine go_adv hX c_116 2 (F2 := (38, [], [(2, .int (ki 0)), (0, .ref x0), (1, .int x1)], v21)) rfl ?_
  refine go_ls [(0, .ref x0), (2, .int (ki 0))] ⟨rfl, ⟨rfl, trivial⟩⟩ ?_
  obtain ⟨o37, e38, hF⟩ := mm_bind hF
  refine r_X5_areBreathsTold_L38 hX 1000 x0 (ki 0) v21 o37 e38 ?_ ?_
  · intro o37r hr
    subst hr
    dsimp only at hF
    cases hF
    exact hQ
  · intro o37e he
    subst he
    dsimp only at hF
    refine go_adv hX c_116 1 (F2 := (74, [.int (ki 1)], [], o37e)) rfl ?_
    cases hF
    exact go_iret hX c_116 rfl rfl (by decide) hQ
theorem c_97 : mm_cd 97 = k_X5_isTold := rfl
def F_X5_isTold (h : mm_S) (x0 : Nat) : Option (Int32 × mm_S) :=
  (fx_is h x0 5).bind fun _ =>
  (F_X5_areStepsTold h x0).bind fun v2 =>
  if v2.1 = 0 then
    some (ki 0, v2.2)
  else
    (fx_is v2.2 x0 5).bind fun _ =>
    (F_X5_areBreathsTold v2.2 x0 (ki 0)).bind fun v6 =>
    if v6.1 = 0 then
      some (ki 0, v6.2)
    else
      (fx_is v6.2 x0 5).bind fun _ =>
      (F_X5_areBreathsTold v6.2 x0 (ki 1)).bind fun v10 =>
      if v10.1 = 0 then
        some (ki 0, v10.2)
      else
        (fx_gR v10.2 x0 5 0).bind fun v13 =>
        (fx_is v10.2 v13 3).bind fun _ =>
        (F_X3_isNoGiantOnNeutral v10.2 v13).bind fun v16 =>
        if v16 = 0 then
          some (ki 0, v10.2)
        else
          (fx_gR v10.2 x0 5 0).bind fun v19 =>
          (fx_is v10.2 v19 3).bind fun _ =>
          (F_X3_coinsOfAll v10.2 v19).bind fun v22 =>
          if v22 ≠ (kb 60) then
            some (ki 0, v10.2)
          else
            some (ki 1, v10.2)
theorem r_X5_isTold {X : mm_Cl} (hX : mm_mono X) {d c k : Nat} {Q : mm_Re → Prop} {h : mm_S} {x0 : Nat} {o : (Int32 × mm_S)} (hF : F_X5_isTold h x0 = some o) (hQ : Q (.inl (some (.int o.1)), o.2)) : mm_Run X (d + 6) 97 c k [.ref x0] h Q := by
  unfold F_X5_isTold at hF
  refine mm_Run_in (by decide) (by decide) (Nat.le_of_ble_eq_true rfl) ?_
  show mm_Ex (mm_Run X (d + 5)) 97 Q (0, [], [(0, .ref x0)], h) c k
  refine go_adv hX c_97 1 (F2 := (1, [.ref x0], [(0, .ref x0)], h)) rfl ?_
  obtain ⟨_, e1, hF⟩ := mm_bind hF
  obtain ⟨v2, e3, hF⟩ := mm_bind hF
  refine go_cV hX (As := []) (rv := some (.int v2.1)) (h2 := v2.2) (ci := 5) c_97 rfl (Nat.le_of_ble_eq_true rfl) rfl rfl e1 (by decide) (Nat.le_of_ble_eq_true rfl) (fun Q2 hQ2 => r_X5_areStepsTold hX (d := d) e3 hQ2) ?_
  rcases mm_ite hF with ⟨hc4, hF⟩ | ⟨hc4, hF⟩
  · refine go_zt hX 49 c_97 rfl rfl hc4 ?_
    refine go_adv hX c_97 1 (F2 := (50, [.int (ki 0)], [(0, .ref x0)], v2.2)) rfl ?_
    cases hF
    exact go_iret hX c_97 rfl rfl (by decide) hQ
  · refine go_zf hX c_97 rfl (by decide) hc4 ?_
    refine go_adv hX c_97 2 (F2 := (9, [.int (ki 0), .ref x0], [(0, .ref x0)], v2.2)) rfl ?_
    obtain ⟨_, e5, hF⟩ := mm_bind hF
    obtain ⟨v6, e7, hF⟩ := mm_bind hF
    refine go_cV hX (As := [.int (ki 0)]) (rv := some (.int v6.1)) (h2 := v6.2) (ci := 5) c_97 rfl (Nat.le_of_ble_eq_true rfl) rfl rfl e5 (by decide) (Nat.le_of_ble_eq_true rfl) (fun Q2 hQ2 => r_X5_areBreathsTold hX (d := d) e7 hQ2) ?_
    rcases mm_ite hF with ⟨hc8, hF⟩ | ⟨hc8, hF⟩
    · refine go_zt hX 49 c_97 rfl rfl hc8 ?_
      refine go_adv hX c_97 1 (F2 := (50, [.int (ki 0)], [(0, .ref x0)], v6.2)) rfl ?_
      cases hF
      exact go_iret hX c_97 rfl rfl (by decide) hQ
    · refine go_zf hX c_97 rfl (by decide) hc8 ?_
      refine go_adv hX c_97 2 (F2 := (17, [.int (ki 1), .ref x0], [(0, .ref x0)], v6.2)) rfl ?_
      obtain ⟨_, e9, hF⟩ := mm_bind hF
      obtain ⟨v10, e11, hF⟩ := mm_bind hF
      refine go_cV hX (As := [.int (ki 1)]) (rv := some (.int v10.1)) (h2 := v10.2) (ci := 5) c_97 rfl (Nat.le_of_ble_eq_true rfl) rfl rfl e9 (by decide) (Nat.le_of_ble_eq_true rfl) (fun Q2 hQ2 => r_X5_areBreathsTold hX (d := d) e11 hQ2) ?_
      rcases mm_ite hF with ⟨hc12, hF⟩ | ⟨hc12, hF⟩
      · refine go_zt hX 49 c_97 rfl rfl hc12 ?_
        refine go_adv hX c_97 1 (F2 := (50, [.int (ki 0)], [(0, .ref x0)], v10.2)) rfl ?_
        cases hF
        exact go_iret hX c_97 rfl rfl (by decide) hQ
      · refine go_zf hX c_97 rfl (by decide) hc12 ?_
        refine go_adv hX c_97 1 (F2 := (24, [.ref x0], [(0, .ref x0)], v10.2)) rfl ?_
        obtain ⟨v13, e14, hF⟩ := mm_bind hF
        refine go_gR hX c_97 rfl e14 ?_
        obtain ⟨_, e15, hF⟩ := mm_bind hF
        obtain ⟨v16, e17, hF⟩ := mm_bind hF
        refine go_cV hX (As := []) (rv := some (.int v16)) (h2 := v10.2) (ci := 3) c_97 rfl (Nat.le_of_ble_eq_true rfl) rfl rfl e15 (by decide) (Nat.le_of_ble_eq_true rfl) (fun Q2 hQ2 => r_X3_isNoGiantOnNeutral hX (d := (d + 4)) e17 hQ2) ?_
        rcases mm_ite hF with ⟨hc18, hF⟩ | ⟨hc18, hF⟩
        · refine go_zt hX 49 c_97 rfl rfl hc18 ?_
          refine go_adv hX c_97 1 (F2 := (50, [.int (ki 0)], [(0, .ref x0)], v10.2)) rfl ?_
          cases hF
          exact go_iret hX c_97 rfl rfl (by decide) hQ
        · refine go_zf hX c_97 rfl (by decide) hc18 ?_
          refine go_adv hX c_97 1 (F2 := (34, [.ref x0], [(0, .ref x0)], v10.2)) rfl ?_
          obtain ⟨v19, e20, hF⟩ := mm_bind hF
          refine go_gR hX c_97 rfl e20 ?_
          obtain ⟨_, e21, hF⟩ := mm_bind hF
          obtain ⟨v22, e23, hF⟩ := mm_bind hF
          refine go_cV hX (As := []) (rv := some (.int v22)) (h2 := v10.2) (ci := 3) c_97 rfl (Nat.le_of_ble_eq_true rfl) rfl rfl e21 (by decide) (Nat.le_of_ble_eq_true rfl) (fun Q2 hQ2 => r_X3_coinsOfAll hX (d := (d + 4)) e23 hQ2) ?_
          refine go_adv hX c_97 1 (F2 := (42, [.int (kb 60), .int v22], [(0, .ref x0)], v10.2)) rfl ?_
          rcases mm_ite hF with ⟨hc24, hF⟩ | ⟨hc24, hF⟩
          · refine go_ct hX 49 c_97 rfl rfl hc24 ?_
            refine go_adv hX c_97 1 (F2 := (50, [.int (ki 0)], [(0, .ref x0)], v10.2)) rfl ?_
            cases hF
            exact go_iret hX c_97 rfl rfl (by decide) hQ
          · refine go_cf hX c_97 rfl (by decide) hc24 ?_
            refine go_adv hX c_97 1 (F2 := (46, [.int (ki 1)], [(0, .ref x0)], v10.2)) rfl ?_
            refine go_to hX 50 c_97 rfl rfl ?_
            cases hF
            exact go_iret hX c_97 rfl rfl (by decide) hQ
theorem c_261 : mm_cd 261 = k_J8_newLength_cabcc := rfl
def F_J8_newLength_cabcc (h : mm_S) (x0 : Int32) (x1 : Int32) (x2 : Int32) : Option Int32 :=
  if (x0 + (if x1 < x2 then x2 else x1)) ≤ (ki 0) then
    none
  else
    if (nI 2147483639) < (x0 + (if x1 < x2 then x2 else x1)) then
      none
    else
      some (x0 + (if x1 < x2 then x2 else x1))
theorem r_J8_newLength_cabcc {X : mm_Cl} (hX : mm_mono X) {d c k : Nat} {Q : mm_Re → Prop} {h : mm_S} {x0 : Int32} {x1 : Int32} {x2 : Int32} {o : Int32} (hF : F_J8_newLength_cabcc h x0 x1 x2 = some o) (hQ : Q (.inl (some (.int o)), h)) : mm_Run X (d + 1) 261 c k [.int x0, .int x1, .int x2] h Q := by
  unfold F_J8_newLength_cabcc at hF
  refine mm_Run_in (by decide) (by decide) (Nat.le_of_ble_eq_true rfl) ?_
  show mm_Ex (mm_Run X d) 261 Q (0, [], [(0, .int x0), (1, .int x1), (2, .int x2)], h) c k
  refine go_adv hX c_261 3 (F2 := (3, [.int x2, .int x1, .int x0], [(0, .int x0), (1, .int x1), (2, .int x2)], h)) rfl ?_
  refine go_max hX c_261 rfl (Nat.le_of_ble_eq_true rfl) ?_
  refine go_adv hX c_261 4 (F2 := (10, [.int (x0 + (if x1 < x2 then x2 else x1)), .int (ki 0)], [(3, .int (x0 + (if x1 < x2 then x2 else x1))), (0, .int x0), (1, .int x1), (2, .int x2)], h)) rfl ?_
  rcases mm_ite hF with ⟨hc1, hF⟩ | ⟨hc1, hF⟩
  · refine go_ct hX 21 c_261 rfl rfl hc1 ?_
    refine go_adv hX c_261 2 (F2 := (23, [.int x1, .int x0], [(3, .int (x0 + (if x1 < x2 then x2 else x1))), (0, .int x0), (1, .int x1), (2, .int x2)], h)) rfl ?_
    cases hF
  · refine go_cf hX c_261 rfl (by decide) hc1 ?_
    refine go_adv hX c_261 2 (F2 := (16, [.int (nI 2147483639), .int (x0 + (if x1 < x2 then x2 else x1))], [(3, .int (x0 + (if x1 < x2 then x2 else x1))), (0, .int x0), (1, .int x1), (2, .int x2)], h)) rfl ?_
    rcases mm_ite hF with ⟨hc2, hF⟩ | ⟨hc2, hF⟩
    · refine go_ct hX 21 c_261 rfl rfl hc2 ?_
      refine go_adv hX c_261 2 (F2 := (23, [.int x1, .int x0], [(3, .int (x0 + (if x1 < x2 then x2 else x1))), (0, .int x0), (1, .int x1), (2, .int x2)], h)) rfl ?_
      cases hF
    · refine go_cf hX c_261 rfl (by decide) hc2 ?_
      refine go_adv hX c_261 1 (F2 := (20, [.int (x0 + (if x1 < x2 then x2 else x1))], [(3, .int (x0 + (if x1 < x2 then x2 else x1))), (0, .int x0), (1, .int x1), (2, .int x2)], h)) rfl ?_
      cases hF
      exact go_iret hX c_261 rfl rfl rfl hQ
theorem c_250 : mm_cd 250 = k_J5_newCapacity_0f7a4 := rfl
def F_J5_newCapacity_0f7a4 (h : mm_S) (x0 : Nat) (x1 : Int32) : Option Int32 :=
  (fx_gR h x0 7 0).bind fun v1 =>
  (fx_len h v1).bind fun v3 =>
  (fx_gI h x0 7 1).bind fun v5 =>
  (fx_gI h x0 7 1).bind fun v7 =>
  (F_J8_newLength_cabcc h v3 ((x1 <<< (v5 &&& 31)) - v3) (v3 + ((ki 2) <<< (v7 &&& 31)))).bind fun v9 =>
  if v9 ≠ (nI 2147483647) then
    (fx_gI h x0 7 1).bind fun v12 =>
    some (v9 >>> (v12 &&& 31))
  else
    none
theorem r_J5_newCapacity_0f7a4 {X : mm_Cl} (hX : mm_mono X) {d c k : Nat} {Q : mm_Re → Prop} {h : mm_S} {x0 : Nat} {x1 : Int32} {o : Int32} (hF : F_J5_newCapacity_0f7a4 h x0 x1 = some o) (hQ : Q (.inl (some (.int o)), h)) : mm_Run X (d + 2) 250 c k [.ref x0, .int x1] h Q := by
  unfold F_J5_newCapacity_0f7a4 at hF
  refine mm_Run_in (by decide) (by decide) (Nat.le_of_ble_eq_true rfl) ?_
  show mm_Ex (mm_Run X (d + 1)) 250 Q (0, [], [(0, .ref x0), (1, .int x1)], h) c k
  refine go_adv hX c_250 1 (F2 := (1, [.ref x0], [(0, .ref x0), (1, .int x1)], h)) rfl ?_
  obtain ⟨v1, e2, hF⟩ := mm_bind hF
  refine go_gR hX c_250 rfl e2 ?_
  obtain ⟨v3, e4, hF⟩ := mm_bind hF
  refine go_len hX c_250 rfl e4 ?_
  refine go_adv hX c_250 3 (F2 := (8, [.ref x0, .int x1], [(2, .int v3), (0, .ref x0), (1, .int x1)], h)) rfl ?_
  obtain ⟨v5, e6, hF⟩ := mm_bind hF
  refine go_gI hX c_250 rfl e6 ?_
  refine go_adv hX c_250 11 (F2 := (24, [.ref x0, .int (ki 2), .int v3, .int ((x1 <<< (v5 &&& 31)) - v3), .int v3], [(4, .int ((x1 <<< (v5 &&& 31)) - v3)), (3, .int (x1 <<< (v5 &&& 31))), (2, .int v3), (0, .ref x0), (1, .int x1)], h)) rfl ?_
  obtain ⟨v7, e8, hF⟩ := mm_bind hF
  refine go_gI hX c_250 rfl e8 ?_
  refine go_adv hX c_250 2 (F2 := (29, [.int (v3 + ((ki 2) <<< (v7 &&& 31))), .int ((x1 <<< (v5 &&& 31)) - v3), .int v3], [(4, .int ((x1 <<< (v5 &&& 31)) - v3)), (3, .int (x1 <<< (v5 &&& 31))), (2, .int v3), (0, .ref x0), (1, .int x1)], h)) rfl ?_
  obtain ⟨v9, e10, hF⟩ := mm_bind hF
  refine go_cS hX (As := [.int v3, .int ((x1 <<< (v5 &&& 31)) - v3), .int (v3 + ((ki 2) <<< (v7 &&& 31)))]) (rv := some (.int v9)) (h2 := h) c_250 rfl (by decide) (Nat.le_of_ble_eq_true rfl) rfl rfl (Nat.le_of_ble_eq_true rfl) (fun Q2 hQ2 => r_J8_newLength_cabcc hX (d := d) e10 hQ2) ?_
  refine go_adv hX c_250 3 (F2 := (38, [.int (nI 2147483647), .int v9], [(5, .int v9), (4, .int ((x1 <<< (v5 &&& 31)) - v3)), (3, .int (x1 <<< (v5 &&& 31))), (2, .int v3), (0, .ref x0), (1, .int x1)], h)) rfl ?_
  rcases mm_ite hF with ⟨hc11, hF⟩ | ⟨hc11, hF⟩
  · refine go_ct hX 51 c_250 rfl rfl hc11 ?_
    refine go_adv hX c_250 2 (F2 := (54, [.ref x0, .int v9], [(5, .int v9), (4, .int ((x1 <<< (v5 &&& 31)) - v3)), (3, .int (x1 <<< (v5 &&& 31))), (2, .int v3), (0, .ref x0), (1, .int x1)], h)) rfl ?_
    obtain ⟨v12, e13, hF⟩ := mm_bind hF
    refine go_gI hX c_250 rfl e13 ?_
    refine go_adv hX c_250 1 (F2 := (58, [.int (v9 >>> (v12 &&& 31))], [(5, .int v9), (4, .int ((x1 <<< (v5 &&& 31)) - v3)), (3, .int (x1 <<< (v5 &&& 31))), (2, .int v3), (0, .ref x0), (1, .int x1)], h)) rfl ?_
    cases hF
    exact go_iret hX c_250 rfl rfl rfl hQ
  · refine go_cf hX c_250 rfl (by decide) hc11 ?_
    cases hF
theorem c_260 : mm_cd 260 = k_J7_copyOf_9075b := rfl
def F_J7_copyOf_9075b (h : mm_S) (x0 : Nat) (x1 : Int32) : Option (Nat × mm_S) :=
  (fx_len h x0).bind fun v1 =>
  if x1 ≠ v1 then
    none
  else
    none
theorem r_J7_copyOf_9075b {X : mm_Cl} (hX : mm_mono X) {d c k : Nat} {Q : mm_Re → Prop} {h : mm_S} {x0 : Nat} {x1 : Int32} {o : (Nat × mm_S)} (hF : F_J7_copyOf_9075b h x0 x1 = some o) (hQ : Q (.inl (some (.ref o.1)), o.2)) : mm_Run X (d + 1) 260 c k [.ref x0, .int x1] h Q := by
  unfold F_J7_copyOf_9075b at hF
  refine mm_Run_in (by decide) (by decide) (Nat.le_of_ble_eq_true rfl) ?_
  show mm_Ex (mm_Run X d) 260 Q (0, [], [(0, .ref x0), (1, .int x1)], h) c k
  refine go_adv hX c_260 2 (F2 := (2, [.ref x0, .int x1], [(0, .ref x0), (1, .int x1)], h)) rfl ?_
  obtain ⟨v1, e2, hF⟩ := mm_bind hF
  refine go_len hX c_260 rfl e2 ?_
  rcases mm_ite hF with ⟨hc3, hF⟩ | ⟨hc3, hF⟩
  · refine go_ct hX 14 c_260 rfl rfl hc3 ?_
    refine go_adv hX c_260 1 (F2 := (15, [.int x1], [(0, .ref x0), (1, .int x1)], h)) rfl ?_
    cases hF
  · refine go_cf hX c_260 rfl (by decide) hc3 ?_
    refine go_adv hX c_260 1 (F2 := (7, [.ref x0], [(0, .ref x0), (1, .int x1)], h)) rfl ?_
    cases hF
theorem c_249 : mm_cd 249 = k_J5_ensureCapacityInternal_d00df := rfl
def F_J5_ensureCapacityInternal_d00df (h : mm_S) (x0 : Nat) (x1 : Int32) : Option mm_S :=
  (fx_gR h x0 7 0).bind fun v1 =>
  (fx_len h v1).bind fun v3 =>
  (fx_gI h x0 7 1).bind fun v5 =>
  if (x1 - (v3 >>> (v5 &&& 31))) ≤ 0 then
    some h
  else
    (fx_gR h x0 7 0).bind fun v8 =>
    (fx_is h x0 7).bind fun _ =>
    (F_J5_newCapacity_0f7a4 h x0 x1).bind fun v11 =>
    (fx_gI h x0 7 1).bind fun v13 =>
    (F_J7_copyOf_9075b h v8 (v11 <<< (v13 &&& 31))).bind fun v15 =>
    (fx_pV v15.2 x0 7 0 (.ref v15.1)).bind fun h17 =>
    some h17
theorem r_J5_ensureCapacityInternal_d00df {X : mm_Cl} (hX : mm_mono X) {d c k : Nat} {Q : mm_Re → Prop} {h : mm_S} {x0 : Nat} {x1 : Int32} {o : mm_S} (hF : F_J5_ensureCapacityInternal_d00df h x0 x1 = some o) (hQ : Q (.inl none, o)) : mm_Run X (d + 3) 249 c k [.ref x0, .int x1] h Q := by
  unfold F_J5_ensureCapacityInternal_d00df at hF
  refine mm_Run_in (by decide) (by decide) (Nat.le_of_ble_eq_true rfl) ?_
  show mm_Ex (mm_Run X (d + 2)) 249 Q (0, [], [(0, .ref x0), (1, .int x1)], h) c k
  refine go_adv hX c_249 1 (F2 := (1, [.ref x0], [(0, .ref x0), (1, .int x1)], h)) rfl ?_
  obtain ⟨v1, e2, hF⟩ := mm_bind hF
  refine go_gR hX c_249 rfl e2 ?_
  obtain ⟨v3, e4, hF⟩ := mm_bind hF
  refine go_len hX c_249 rfl e4 ?_
  refine go_adv hX c_249 1 (F2 := (6, [.ref x0, .int v3], [(0, .ref x0), (1, .int x1)], h)) rfl ?_
  obtain ⟨v5, e6, hF⟩ := mm_bind hF
  refine go_gI hX c_249 rfl e6 ?_
  refine go_adv hX c_249 5 (F2 := (14, [.int (x1 - (v3 >>> (v5 &&& 31)))], [(2, .int (v3 >>> (v5 &&& 31))), (0, .ref x0), (1, .int x1)], h)) rfl ?_
  rcases mm_ite hF with ⟨hc7, hF⟩ | ⟨hc7, hF⟩
  · refine go_zt hX 38 c_249 rfl rfl hc7 ?_
    cases hF
    exact go_ret hX c_249 rfl rfl hQ
  · refine go_zf hX c_249 rfl (by decide) hc7 ?_
    refine go_adv hX c_249 2 (F2 := (19, [.ref x0, .ref x0], [(2, .int (v3 >>> (v5 &&& 31))), (0, .ref x0), (1, .int x1)], h)) rfl ?_
    obtain ⟨v8, e9, hF⟩ := mm_bind hF
    refine go_gR hX c_249 rfl e9 ?_
    refine go_adv hX c_249 2 (F2 := (24, [.int x1, .ref x0, .ref v8, .ref x0], [(2, .int (v3 >>> (v5 &&& 31))), (0, .ref x0), (1, .int x1)], h)) rfl ?_
    obtain ⟨_, e10, hF⟩ := mm_bind hF
    obtain ⟨v11, e12, hF⟩ := mm_bind hF
    refine go_cV hX (As := [.int x1]) (rv := some (.int v11)) (h2 := h) (ci := 7) c_249 rfl (Nat.le_of_ble_eq_true rfl) rfl rfl e10 (by decide) (Nat.le_of_ble_eq_true rfl) (fun Q2 hQ2 => r_J5_newCapacity_0f7a4 hX (d := d) e12 hQ2) ?_
    refine go_adv hX c_249 1 (F2 := (28, [.ref x0, .int v11, .ref v8, .ref x0], [(2, .int (v3 >>> (v5 &&& 31))), (0, .ref x0), (1, .int x1)], h)) rfl ?_
    obtain ⟨v13, e14, hF⟩ := mm_bind hF
    refine go_gI hX c_249 rfl e14 ?_
    refine go_adv hX c_249 1 (F2 := (32, [.int (v11 <<< (v13 &&& 31)), .ref v8, .ref x0], [(2, .int (v3 >>> (v5 &&& 31))), (0, .ref x0), (1, .int x1)], h)) rfl ?_
    obtain ⟨v15, e16, hF⟩ := mm_bind hF
    refine go_cS hX (As := [.ref v8, .int (v11 <<< (v13 &&& 31))]) (rv := some (.ref v15.1)) (h2 := v15.2) c_249 rfl (by decide) (Nat.le_of_ble_eq_true rfl) rfl rfl (Nat.le_of_ble_eq_true rfl) (fun Q2 hQ2 => r_J7_copyOf_9075b hX (d := (d + 1)) e16 hQ2) ?_
    obtain ⟨h17, e18, hF⟩ := mm_bind hF
    refine go_pV hX c_249 rfl e18 ?_
    cases hF
    exact go_ret hX c_249 rfl rfl hQ
theorem c_259 : mm_cd 259 = k_J1_canEncode_fc78d := rfl
def F_J1_canEncode_fc78d (h : mm_S) (x0 : Int32) : Option Int32 :=
  if (ks 255) < x0 then
    some (ki 0)
  else
    some (ki 1)
theorem r_J1_canEncode_fc78d {X : mm_Cl} (hX : mm_mono X) {d c k : Nat} {Q : mm_Re → Prop} {h : mm_S} {x0 : Int32} {o : Int32} (hF : F_J1_canEncode_fc78d h x0 = some o) (hQ : Q (.inl (some (.int o)), h)) : mm_Run X (d + 1) 259 c k [.int x0] h Q := by
  unfold F_J1_canEncode_fc78d at hF
  refine mm_Run_in (by decide) (by decide) (Nat.le_of_ble_eq_true rfl) ?_
  show mm_Ex (mm_Run X d) 259 Q (0, [], [(0, .int x0)], h) c k
  refine go_adv hX c_259 2 (F2 := (4, [.int (ks 255), .int x0], [(0, .int x0)], h)) rfl ?_
  rcases mm_ite hF with ⟨hc1, hF⟩ | ⟨hc1, hF⟩
  · refine go_ct hX 11 c_259 rfl rfl hc1 ?_
    refine go_adv hX c_259 1 (F2 := (12, [.int (ki 0)], [(0, .int x0)], h)) rfl ?_
    cases hF
    exact go_iret hX c_259 rfl rfl (by decide) hQ
  · refine go_cf hX c_259 rfl (by decide) hc1 ?_
    refine go_adv hX c_259 1 (F2 := (8, [.int (ki 1)], [(0, .int x0)], h)) rfl ?_
    refine go_to hX 12 c_259 rfl rfl ?_
    cases hF
    exact go_iret hX c_259 rfl rfl (by decide) hQ

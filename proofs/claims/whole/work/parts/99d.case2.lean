/-! the cases of the law's switch: what they push, the plain ones, the two of floating numbers -/
section CV
variable {C : LC_} {b L : Nat} {xs : Nat → Int32} {cells slots : Nat} {ls : mm_L} {rest st : List Value} {h : mm_S} {Kc : List mm_E} {A : Nat → Nat} {K : Nat → mm_Ce} {x m o o2 n pc : Nat}
theorem LX_w (X : LX_ C b L xs) : C.2.2.2.2.2.2.2.2.2.1.map (fun q => q.2) = mm_tyl ∧ C.2.1.stackTraces = false ∧ ∀ (d y c k : Nat) (args : List Value) (h : mm_S) (Q : mm_Re → Prop), mm_Run (mm_Xc (SS_ C.2.2.2.2.2.2.2.2.1)) d y c k args h Q → mm_Met C.2.1 C.2.2.2.2.2.2.2.2.1 C.2.2.2.2.2.2.2.2.2.1 C.2.2.2.2.2.2.2.2.2.2.1 (Am_ C.2.2.2.2.2.2.2.2.1 C.2.2.2.2.2.2.2.2.2.2.1) d y c k args h Q := by
  obtain ⟨p, l, e, s, m, below, meth, cd, D, tys, b0, Qe⟩ := C
  exact ⟨X.2.1, X.2.2.1, LX_sound l D tys b0 X.2.1 X.2.2.1⟩
/-- the markers of the nine strings -/
theorem ll_mk (X : LX_ C b L xs) (g : MK_ (SS_ C.2.2.2.2.2.2.2.2.1) h → LK_ C b cells slots (pc, st, ls, h)) : LK_ C b cells slots (pc, st, ls, h) := by
  obtain ⟨p, l, e, s, m, below, meth, cd, D, tys, b0, Qe⟩ := C
  obtain ⟨⟨hx, hb, hml, hts, hnw, hown, hK, hlk, hb0, hamb⟩, hty, hl9, hX, hbl, hbA⟩ := X
  intro la H locs hl hr hS
  exact g ⟨fun i hi => (hr.2.2.2 i hi).1, fun i j hi hj e => hamb.2.2.1.2 i j hi hj e⟩ la H locs hl hr hS
def q_ok (K : List mm_E) (pc j : Nat) : Bool := decide (mm_find K pc = some (.aload_n 0, 0, 0)) && decide (mm_find K (pc + 1) = some (.iload 5, 0, 0)) && decide (mm_find K (pc + 3) = some (.iconst (j : Int), 0, 0)) && decide (mm_find K (pc + 4) = some (.iadd, 0, 0)) && decide (decode code (pc + 5) = .ok (.iaload, 1))
/-- a number of the script is pushed -/
theorem ll_q (X : LX_ C b L xs) (hK : Kc.all (lx_eok code 9) = true) {j : Nat} (ht : q_ok Kc pc j = true) (hj : n + j < L) (hL : L < 2 ^ 31) (h0 : mm_get ls 0 = some (.ref b)) (h5 : mm_get ls 5 = some (.int (nI n))) (g : LK_ C b cells slots (pc + 6, .int (xs (n + j)) :: rest, ls, h)) : LK_ C b cells slots (pc, rest, ls, h) := by
  simp only [q_ok, Bool.and_eq_true, decide_eq_true_eq] at ht
  obtain ⟨⟨⟨⟨t1, t2⟩, t3⟩, t4⟩, t5⟩ := ht
  have e1 : mm_st (.aload_n 0) 0 0 pc rest ls h = some (none, (pc + 1, .ref b :: rest, ls, h)) := by
    show mm_ald ls 0 _ = _
    unfold mm_ald
    rw [h0]
  have e2 : mm_st (.iload 5) 0 0 (pc + 1) (.ref b :: rest) ls h = some (none, (pc + 3, .int (nI n) :: .ref b :: rest, ls, h)) := by
    show mm_ild ls 5 _ = _
    unfold mm_ild
    rw [h5]
  refine ll_R X (lr_n hK t1 e1 (lr_n hK t2 e2 (lr_n hK t3 (F2 := (pc + 4, .int (Int32.ofInt (j : Int)) :: .int (nI n) :: .ref b :: rest, ls, h)) rfl (lr_n hK t4 (F2 := (pc + 5, .int (nI n + Int32.ofInt (j : Int)) :: .ref b :: rest, ls, h)) rfl lr_rf)))) ?_
  have e : nI n + Int32.ofInt (j : Int) = nI (n + j) := nI_add n j
  rw [e]
  exact ll_ld X t5 (vp_in_nI hj hL) (by rw [nI_clamp (by omega)]) g
def qs_ok (K : List mm_E) : Nat → List Nat → Bool
  | _, [] => true
  | pc, j :: js => q_ok K pc j && qs_ok K (pc + 6) js
def xs_v (xs : Nat → Int32) (n : Nat) (js : List Nat) : List Value := js.map fun j => .int (xs (n + j))
theorem ll_qs (X : LX_ C b L xs) (hK : Kc.all (lx_eok code 9) = true) (hL : n + 3 < L ∧ L < 2 ^ 31) (h0 : mm_get ls 0 = some (.ref b)) (h5 : mm_get ls 5 = some (.int (nI n))) : ∀ (js : List Nat) (pc : Nat) (rest : List Value), qs_ok Kc pc js = true → (∀ j ∈ js, j < 4) → LK_ C b cells slots (pc + 6 * js.length, (xs_v xs n js).reverse ++ rest, ls, h) → LK_ C b cells slots (pc, rest, ls, h)
  | [], pc, rest, _, _, g => g
  | j :: js, pc, rest, ht, hj, g => by
    simp only [qs_ok, Bool.and_eq_true] at ht
    have hj1 := hj j List.mem_cons_self
    refine ll_q X hK ht.1 (by omega) hL.2 h0 h5 (ll_qs X hK hL h0 h5 js (pc + 6) _ ht.2 (fun i hi => hj i (List.mem_cons_of_mem _ hi)) ?_)
    have e : pc + 6 * (j :: js).length = pc + 6 + 6 * js.length := by rw [List.length_cons]; omega
    rw [e] at g
    simpa [xs_v] using g
/-- the pushes ahead of a small method -/
def p1_ok (K : List mm_E) (pc : Nat) (js : List Nat) : Bool := decide (mm_find K pc = some (.aload_n 1, 0, 0)) && qs_ok K (pc + 1) js && decide (mm_find K (pc + 1 + 6 * js.length) = some (.aload_n 3, 0, 0)) && js.all fun j => decide (j < 4)
theorem lp_1 (X : LX_ C b L xs) (hK : Kc.all (lx_eok code 9) = true) (hL : n + 3 < L ∧ L < 2 ^ 31) {js : List Nat} (ht : p1_ok Kc pc js = true) (g : LK_ C b cells slots (pc + 1 + 6 * js.length + 1, (Value.ref x :: (xs_v xs n js ++ [Value.ref o])).reverse ++ [], ls_ b x m o o2 n, h)) : LK_ C b cells slots (pc, [], ls_ b x m o o2 n, h) := by
  simp only [p1_ok, Bool.and_eq_true, decide_eq_true_eq, List.all_eq_true] at ht
  obtain ⟨⟨⟨t1, t2⟩, t3⟩, t4⟩ := ht
  refine ll_R X (lr_n hK t1 (F2 := (pc + 1, [.ref x], ls_ b x m o o2 n, h)) rfl lr_rf) (ll_qs X hK hL rfl rfl js (pc + 1) _ t2 t4 (ll_R X (lr_n hK t3 (F2 := (pc + 1 + 6 * js.length + 1, .ref o :: ((xs_v xs n js).reverse ++ [.ref x]), ls_ b x m o o2 n, h)) rfl lr_rf) ?_))
  simpa using g
/-- the pushes ahead of the reference -/
def p2_ok (K : List mm_E) (pc : Nat) (js : List Nat) : Bool := decide (mm_find K pc = some (.aload_n 2, 0, 0)) && qs_ok K (pc + 1) js && js.all fun j => decide (j < 4)
theorem lp_2 (X : LX_ C b L xs) (hK : Kc.all (lx_eok code 9) = true) (hL : n + 3 < L ∧ L < 2 ^ 31) {js : List Nat} {kk : Int32} (ht : p2_ok Kc pc js = true) (g : LK_ C b cells slots (pc + 1 + 6 * js.length, (xs_v xs n js).reverse ++ .ref m :: [], (6, .int kk) :: ls_ b x m o o2 n, h)) : LK_ C b cells slots (pc, [], (6, .int kk) :: ls_ b x m o o2 n, h) := by
  simp only [p2_ok, Bool.and_eq_true, decide_eq_true_eq, List.all_eq_true] at ht
  obtain ⟨⟨t1, t2⟩, t4⟩ := ht
  exact ll_R X (lr_n hK t1 (F2 := (pc + 1, [.ref m], (6, .int kk) :: ls_ b x m o o2 n, h)) rfl lr_rf) (ll_qs X hK hL rfl rfl js (pc + 1) _ t2 t4 g)
/-- a case that compares two plain answers -/
def d_ok (K : List mm_E) (pc : Nat) (off : Int) : Bool := decide (mm_find K pc = some (.aload_n 1, 0, 0)) && decide (mm_find K (pc + 4) = some (.aload_n 2, 0, 0)) && decide (mm_find K (pc + 8) = some (.if_icmp .eq off, 0, 0)) && decide (((pc + 8 : Nat) : Int) + off = 2671)
theorem lc_dir (X : LX_ C b L xs) (hK : Kc.all (lx_eok code 9) = true) (I : LI_ x m o o2 A K h) {c : Option (Int32 × mm_S)} {md : mm_S → Option (Int32 × mm_S)} {a dA bm dM iC iM : Nat} {off : Int} (hps : PS_ A K c md) (ht : d_ok Kc pc off = true)
    (hcr : ∀ (v : Int32) (h1 : mm_S), c = some (v, h1) → ∀ Q : mm_Re → Prop, Q (.inl (some (.int v)), h1) → mm_Run (mm_Xc (SS_ C.2.2.2.2.2.2.2.2.1)) dA a 0 0 [.ref (A 209)] h Q)
    (hmr : ∀ (H : mm_S) (v : Int32) (h2 : mm_S), md H = some (v, h2) → (A 213 ∈ H.1 ∧ ∃ fs, H.2 (A 213) = .inr (6, fs)) ∧ ∀ Q : mm_Re → Prop, Q (.inl (some (.int v)), h2) → mm_Run (mm_Xc (SS_ C.2.2.2.2.2.2.2.2.1)) dM bm 0 0 [.ref (A 213)] H Q)
    (c1 : a < 266) (c2 : Cond.methodLink "GiantStairsLaw" iC (mm_m a).2.1 ∈ lx_T) (c3 : Cond.instanceMethod (mm_m a).2.1 ∈ lx_T) (c4 : Cond.selects (mm_m a).2.1.cls (mm_m a).2.1 (mm_m a).2.1 ∈ lx_T) (c5 : Cond.initialized (mm_m a).2.1.cls ∈ lx_T) (c6 : (parseMethodDescriptor (mm_m a).2.1.desc).map (fun d => d.parameters.length) = some 0) (c7 : RX5 = (mm_m a).2.1.cls) (c8 : dA ≤ 100) (c9 : decode code (pc + 1) = .ok (.invokevirtual iC, 3))
    (v1 : bm < 266) (v2 : Cond.methodLink "GiantStairsLaw" iM (mm_m bm).2.1 ∈ lx_T) (v3 : Cond.instanceMethod (mm_m bm).2.1 ∈ lx_T) (v4 : Cond.selects (mm_m bm).2.1.cls (mm_m bm).2.1 (mm_m bm).2.1 ∈ lx_T) (v5 : Cond.initialized (mm_m bm).2.1.cls ∈ lx_T) (v6 : (parseMethodDescriptor (mm_m bm).2.1.desc).map (fun d => d.parameters.length) = some 0) (v7 : RX6 = (mm_m bm).2.1.cls) (v8 : dM ≤ 100) (v9 : decode code (pc + 5) = .ok (.invokevirtual iM, 3))
    (hc : cells + 2 ≤ 603072 ∧ slots + 80 ≤ 7215210)
    (hn : ∀ A' K' h', LI_ x m o o2 A' K' h' → LK_ C b (cells + 2) (slots + 80) (2671, [], ls_ b x m o o2 n, h')) : LK_ C b cells slots (pc, [], ls_ b x m o o2 n, h) := by
  simp only [d_ok, Bool.and_eq_true, decide_eq_true_eq] at ht
  obtain ⟨⟨⟨t1, t2⟩, t3⟩, t4⟩ := ht
  obtain ⟨⟨ex, em, eo, eo2⟩, ⟨GG, Z, XL, cap, hW, hsm⟩, i4, i5⟩ := id I
  obtain ⟨h1, v, h2, e1, e2, hs2⟩ := hps
  obtain ⟨⟨w1, fs6, w2⟩, hm⟩ := hmr h1 v h2 e2
  obtain ⟨u1, fs5, u2⟩ := WD_5 hW
  have g1 := hcr v h1 e1 (fun r => ∃ v' h', r = (.inl v', h') ∧ (v' = some (.int v) ∧ h' = h1)) ⟨_, _, rfl, rfl, rfl⟩
  have g2 := hm (fun r => ∃ v' h', r = (.inl v', h') ∧ (v' = some (.int v) ∧ h' = h2)) ⟨_, _, rfl, rfl, rfl⟩
  rw [ex] at g1 u1 u2
  rw [em] at g2 w1 w2
  refine ll_R X (lr_n hK t1 (F2 := (pc + 1, [.ref x], ls_ b x m o o2 n, h)) rfl lr_rf) ?_
  refine ll_V (As := []) (n := 0) (mc := 0) (ms := 0) X g1 c1 c2 c3 c4 c5 c6 u1 u2 (by decide) c7 c8 (by omega) rfl c9 (Nat.zero_le 8) (fun v' h' e' => ?_)
  obtain ⟨rfl, rfl⟩ := e'
  show LK_ C b cells slots (pc + 4, [.int v], ls_ b x m o o2 n, h')
  refine ll_R X (lr_n hK t2 (F2 := (pc + 5, [.ref m, .int v], ls_ b x m o o2 n, h')) rfl lr_rf) ?_
  refine ll_V (As := []) (n := 0) (mc := 0) (ms := 0) X g2 v1 v2 v3 v4 v5 v6 w1 w2 (by decide) v7 v8 (by omega) rfl v9 (show 1 ≤ 8 by decide) (fun v' h'' e' => ?_)
  obtain ⟨rfl, rfl⟩ := e'
  show LK_ C b cells slots (pc + 8, [.int v, .int v], ls_ b x m o o2 n, h'')
  refine ll_R X (lr_ct hK 2671 t3 t4 (show v = v from rfl) lr_rf) ?_
  exact ll_w (Nat.le_add_right _ _) (Nat.le_add_right _ _) (hn A K h'' ⟨⟨ex, em, eo, eo2⟩, hs2, i4, i5⟩)
/-- a usual case, its arguments out of the script -/
theorem lc_j (X : LX_ C b L xs) (hL : n + 3 < L ∧ L < 2 ^ 31) (hK : Kc.all (lx_eok code 9) = true) (I : LI_ x m o o2 A K h) {ex : List String} {cv : Int32 → Int64} {md : mm_S → Option (Int32 × mm_S)} {js : List Nat} {a dA bm dM idxV nV pc0 pL pE : Nat} {o7 o13 : Int} (hexl : ex.length ≤ 2)
    (hcr : CR_ A K ex (fun Q => mm_Run (mm_Xc (SS_ C.2.2.2.2.2.2.2.2.1)) dA a 2 80 (.ref (A 209) :: xs_v xs n js) h Q) md)
    {y : MethodName} {bytes : ByteArray} {maxL n9 idx : Nat} {hh : List (Nat × Nat × Nat × Nat)}
    (hwr : ∀ Q : Int32 → mm_S → Prop, A 209 ∈ h.1 → (∃ fs, h.2 (A 209) = .inr (5, fs)) → mm_Run (mm_Xc (SS_ C.2.2.2.2.2.2.2.2.1)) dA a 2 80 (.ref (A 209) :: xs_v xs n js) h (WC_ ex (A 224) cv Q) → vx_Met C.2.1 y (Cond.codeWith y bytes maxL (some .int) hh :: lx_T) (mm_rm (dA + 1) 2 80) (va_Pc (.ref (A 209) :: (xs_v xs n js ++ [.ref (A 224)])) (mm_B C.2.2.2.2.2.2.2.2.1 C.2.2.2.2.2.2.2.2.2.1 C.2.2.2.2.2.2.2.2.2.2.1 (Am_ C.2.2.2.2.2.2.2.2.1 C.2.2.2.2.2.2.2.2.2.2.1) h)) (mm_Qc C.2.2.2.2.2.2.2.2.1 C.2.2.2.2.2.2.2.2.2.1 C.2.2.2.2.2.2.2.2.2.2.1 (WP_ Q)) (mm_XC C.2.2.2.2.2.2.2.2.1 C.2.2.2.2.2.2.2.2.2.1 C.2.2.2.2.2.2.2.2.2.2.1 (WP_ Q)) 2 80 (mm_A C.2.2.2.2.2.2.2.2.2.2.1))
    (g0 : Cond.codeWith y bytes maxL (some .int) hh ∈ lx_T) (g1 : Cond.methodLink "GiantStairsLaw" idx y ∈ lx_T) (g2 : Cond.static y ∈ lx_T) (g3 : Cond.initialized y.cls ∈ lx_T)
    (gd : y.cls ≠ "java/lang/invoke/MethodHandle" ∧ y.cls ≠ "java/lang/invoke/VarHandle" ∧ (parseMethodDescriptor y.desc).map (fun d => d.parameters.length) = some n9) (gmx : maxL ≤ 20) (gdd : dA ≤ 100) (gn : js.length + 2 = n9) (gdg : decode code (pc0 + 1 + 6 * js.length + 1) = .ok (.invokestatic idx, 3))
    (hp1 : p1_ok Kc pc0 js = true) (t6 : mm_find Kc (pc0 + 1 + 6 * js.length + 1 + 3) = some (.istore 6, 0, 0)) (hp2 : p2_ok Kc (pc0 + 1 + 6 * js.length + 1 + 5) js = true)
    (hmr : ∀ H v h2, md H = some (v, h2) → ∀ Q : mm_Re → Prop, Q (.inl (some (.int v)), h2) → mm_Run (mm_Xc (SS_ C.2.2.2.2.2.2.2.2.1)) dM bm 0 0 (.ref (A 213) :: xs_v xs n js) H Q)
    (v1 : bm < 266) (v2 : Cond.methodLink "GiantStairsLaw" idxV (mm_m bm).2.1 ∈ lx_T) (v3 : Cond.instanceMethod (mm_m bm).2.1 ∈ lx_T) (v4 : Cond.selects (mm_m bm).2.1.cls (mm_m bm).2.1 (mm_m bm).2.1 ∈ lx_T) (v5 : Cond.initialized (mm_m bm).2.1.cls ∈ lx_T) (v6 : (parseMethodDescriptor (mm_m bm).2.1.desc).map (fun d => d.parameters.length) = some nV) (v7 : RX6 = (mm_m bm).2.1.cls) (v8 : dM ≤ 100) (v9 : js.length = nV) (v10 : decode code (pc0 + 1 + 6 * js.length + 1 + 5 + 1 + 6 * js.length) = .ok (.invokevirtual idxV, 3))
    (ht : tl_ok Kc (pc0 + 1 + 6 * js.length + 1 + 5 + 1 + 6 * js.length) pL pE o7 o13 = true) (hmid : ∀ (g : Nat → Int64) (r kk : Int32) (h : mm_S), lx_R code 9 (pc0 + 1 + 6 * js.length + 1 + 5 + 1 + 6 * js.length + 24, [.long (g 0)], (7, .int r) :: (6, .int kk) :: ls_ b x m o o2 n, h) (pL, [.long (cv r), .long (g 0)], (7, .int r) :: (6, .int kk) :: ls_ b x m o o2 n, h))
    (hc : cells + 2 ≤ 603072 ∧ slots + 80 ≤ 7215210)
    (hn : ∀ A' K' h', LI_ x m o o2 A' K' h' → LK_ C b (cells + 2) (slots + 80) (2671, [], ls_ b x m o o2 n, h')) : LK_ C b cells slots (pc0, [], ls_ b x m o o2 n, h) := by
  have hI := I.1
  exact lc_std X hK I (As := xs_v xs n js) (Bs := xs_v xs n js) hexl hcr hwr g0 g1 g2 g3 gd gmx gdd (by rw [List.length_append, xs_v, List.length_map]; exact gn) gdg (fun c k g => lp_1 X hK hL hp1 (by rw [hI.1, hI.2.2.1] at g; exact g)) t6 (fun c k kk H g => lp_2 X hK hL hp2 g) hmr v1 v2 v3 v4 v5 v6 v7 v8 (by rw [xs_v, List.length_map]; exact v9) v10 ht hmid hc hn
end CV

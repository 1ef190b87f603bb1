/-! the small methods, one by one -/
/-- what a small method makes of the call that it guards, an int -/
def WQ_ (ex : List String) (o : Nat) (Q : Int32 → mm_S → Prop) : mm_Re → Prop := fun r => match r with
  | (.inl (some (.int v)), h1) => ∃ g : Nat → Int64, o ∈ h1.1 ∧ h1.2 o = .inl (2, 1, .inr (.inl g)) ∧ Q (nI 0) (mm_put h1 o (.inl (2, 1, .inr (.inl (vp_updL g 0 v.toInt64)))))
  | (.inr E, h1) => ∃ i, ex[i]? = some E ∧ Q (nI (i + 1)) h1
  | _ => False
/-- a truth -/
def WB_ (ex : List String) (o : Nat) (Q : Int32 → mm_S → Prop) : mm_Re → Prop := fun r => match r with
  | (.inl (some (.int v)), h1) => ∃ g : Nat → Int64, o ∈ h1.1 ∧ h1.2 o = .inl (2, 1, .inr (.inl g)) ∧ Q (nI 0) (mm_put h1 o (.inl (2, 1, .inr (.inl (vp_updL g 0 (if v = 0 then kl 0 else kl 1))))))
  | (.inr E, h1) => ∃ i, ex[i]? = some E ∧ Q (nI (i + 1)) h1
  | _ => False
/-- a double -/
def WD2_ (ex : List String) (o : Nat) (Q : Int32 → mm_S → Prop) : mm_Re → Prop := fun r => match r with
  | (.inl (some (.double v)), h1) => ∃ g : Nat → UInt64, o ∈ h1.1 ∧ h1.2 o = .inl (3, 1, .inr (.inr (.inr (.inl g)))) ∧ Q (nI 0) (mm_put h1 o (.inl (3, 1, .inr (.inr (.inr (.inl (vf_upd g 0 v)))))))
  | (.inr E, h1) => ∃ i, ex[i]? = some E ∧ Q (nI (i + 1)) h1
  | _ => False
/-- a float, kept as a double -/
def WF_ (ex : List String) (o : Nat) (Q : Int32 → mm_S → Prop) : mm_Re → Prop := fun r => match r with
  | (.inl (some (.float v)), h1) => vf_n64 (FP.f2d v) ∧ ∃ g : Nat → UInt64, o ∈ h1.1 ∧ h1.2 o = .inl (3, 1, .inr (.inr (.inr (.inl g)))) ∧ Q (nI 0) (mm_put h1 o (.inl (3, 1, .inr (.inr (.inr (.inl (vf_upd g 0 (FP.f2d v))))))))
  | (.inr E, h1) => ∃ i, ex[i]? = some E ∧ Q (nI (i + 1)) h1
  | _ => False
section SM
variable {l : Launch} {D : va_G} {tys : List (ClassId × FieldType)} {b0 : Nat} {X : mm_Cl} {h : mm_S} {d mc ms q o : Nat} {fs : List Value} {Q : Int32 → mm_S → Prop}
theorem wq_i {ex : List String} {v : Option Value} {h9 : mm_S} (g : WQ_ ex o Q (.inl v, h9)) : ∃ (x : Int32) (g9 : Nat → Int64), v = some (.int x) ∧ o ∈ h9.1 ∧ h9.2 o = .inl (2, 1, .inr (.inl g9)) ∧ Q (nI 0) (mm_put h9 o (.inl (2, 1, .inr (.inl (vp_updL g9 0 x.toInt64))))) := by
  match v, g with
  | some (.int v), g => obtain ⟨g9, k1, k2, k3⟩ := g; exact ⟨v, g9, rfl, k1, k2, k3⟩
  | some (.long _), g => exact g.elim
  | some (.float _), g => exact g.elim
  | some (.double _), g => exact g.elim
  | some (.ref _), g => exact g.elim
  | some .null, g => exact g.elim
  | none, g => exact g.elim
theorem wb_i {ex : List String} {v : Option Value} {h9 : mm_S} (g : WB_ ex o Q (.inl v, h9)) : ∃ (x : Int32) (g9 : Nat → Int64), v = some (.int x) ∧ o ∈ h9.1 ∧ h9.2 o = .inl (2, 1, .inr (.inl g9)) ∧ Q (nI 0) (mm_put h9 o (.inl (2, 1, .inr (.inl (vp_updL g9 0 (if x = 0 then kl 0 else kl 1)))))) := by
  match v, g with
  | some (.int v), g => obtain ⟨g9, k1, k2, k3⟩ := g; exact ⟨v, g9, rfl, k1, k2, k3⟩
  | some (.long _), g => exact g.elim
  | some (.float _), g => exact g.elim
  | some (.double _), g => exact g.elim
  | some (.ref _), g => exact g.elim
  | some .null, g => exact g.elim
  | none, g => exact g.elim
theorem wd_i {ex : List String} {v : Option Value} {h9 : mm_S} (g : WD2_ ex o Q (.inl v, h9)) : ∃ (x : UInt64) (g9 : Nat → UInt64), v = some (.double x) ∧ o ∈ h9.1 ∧ h9.2 o = .inl (3, 1, .inr (.inr (.inr (.inl g9)))) ∧ Q (nI 0) (mm_put h9 o (.inl (3, 1, .inr (.inr (.inr (.inl (vf_upd g9 0 x))))))) := by
  match v, g with
  | some (.double v), g => obtain ⟨g9, k1, k2, k3⟩ := g; exact ⟨v, g9, rfl, k1, k2, k3⟩
  | some (.long _), g => exact g.elim
  | some (.float _), g => exact g.elim
  | some (.int _), g => exact g.elim
  | some (.ref _), g => exact g.elim
  | some .null, g => exact g.elim
  | none, g => exact g.elim
theorem wf_i {ex : List String} {v : Option Value} {h9 : mm_S} (g : WF_ ex o Q (.inl v, h9)) : ∃ (x : UInt32) (g9 : Nat → UInt64), v = some (.float x) ∧ vf_n64 (FP.f2d x) ∧ o ∈ h9.1 ∧ h9.2 o = .inl (3, 1, .inr (.inr (.inr (.inl g9)))) ∧ Q (nI 0) (mm_put h9 o (.inl (3, 1, .inr (.inr (.inr (.inl (vf_upd g9 0 (FP.f2d x)))))))) := by
  match v, g with
  | some (.float v), g => obtain ⟨k0, g9, k1, k2, k3⟩ := g; exact ⟨v, g9, rfl, k0, k1, k2, k3⟩
  | some (.long _), g => exact g.elim
  | some (.double _), g => exact g.elim
  | some (.int _), g => exact g.elim
  | some (.ref _), g => exact g.elim
  | some .null, g => exact g.elim
  | none, g => exact g.elim
theorem lw_build (hty : tys.map (fun q => q.2) = mm_tyl) (hl9 : l.stackTraces = false) (hs : ∀ (d y c k : Nat) (args : List Value) (h : mm_S) (Q : mm_Re → Prop), mm_Run X d y c k args h Q → mm_Met l D tys b0 (Am_ D b0) d y c k args h Q) {x0 x1 x2 : Int32} (hq : q ∈ h.1) (hcell : h.2 q = .inr (5, fs)) (g : mm_Run X d 68 mc ms (.ref q :: [.int x0, .int x1, .int x2]) h (WQ_ ["java/lang/UnsupportedOperationException"] o Q)) :
    vx_Met l yL_build (Cond.codeWith yL_build cL_build 6 (some .int) [(0, 12, 15, 13)] :: lx_T) (mm_rm (d + 1) mc ms) (va_Pc [.ref q, .int x0, .int x1, .int x2, .ref o] (mm_B D tys b0 (Am_ D b0) h)) (mm_Qc D tys b0 (WP_ Q)) (mm_XC D tys b0 (WP_ Q)) mc ms (mm_A b0) := by
  refine lw_gen (n := 3) (As := [.int x0, .int x1, .int x2]) (ls := lv_args 0 [.ref q, .int x0, .int x1, .int x2, .ref o]) (a := 68) (idx := 7) (pc1 := 7) (L := 20) (ex := ["java/lang/UnsupportedOperationException"]) hty hl9 lx_sub hs rfl (Nat.le_of_ble_eq_true rfl) (lr_adv kk_Lbuild 6 rfl lr_rf) hq hcell (by decide) rfl (lx_x 0 rfl) (lx_x 2 rfl) (lx_x 3 rfl) (lx_x 1 rfl) (by decide +kernel) rfl (by decide +kernel) (fun v h9 hq9 => ?_) (by decide +kernel) (fun E h9 hq9 => hq9) (fun i E hE => ?_) g
  · obtain ⟨x, g9, rfl, k1, k2, k3⟩ := wq_i hq9
    refine ⟨_, lv_args 0 [.ref q, .int x0, .int x1, .int x2, .ref o], k3, ?_⟩
    refine lr_adv kk_Lbuild 1 (F2 := (11, [.long x.toInt64, .int (ki 0), .ref o], _, h9)) rfl ?_
    refine lr_sL (pc := 11) (n := 0) kk_Lbuild rfl k1 k2 ?_
    refine lr_to (pc := 12) kk_Lbuild 19 rfl rfl ?_
    exact lr_adv kk_Lbuild 1 rfl lr_rf
  · match i, hE with
    | 0, hE =>
      cases hE
      exact ⟨[], [], (0, 12, 15, 13), 18, rfl, (fun z2 hz2 => nomatch hz2), ⟨by decide, by decide⟩, by decide, lx_x 4 rfl, am_c0 0 (by decide), fun q9 h9 => ⟨_, lr_adv kk_Lbuild 2 rfl lr_rf⟩, by decide +kernel⟩
    | j + 1, hE => cases hE
theorem lw_tear (hty : tys.map (fun q => q.2) = mm_tyl) (hl9 : l.stackTraces = false) (hs : ∀ (d y c k : Nat) (args : List Value) (h : mm_S) (Q : mm_Re → Prop), mm_Run X d y c k args h Q → mm_Met l D tys b0 (Am_ D b0) d y c k args h Q) {x0 : Int32} (hq : q ∈ h.1) (hcell : h.2 q = .inr (5, fs)) (g : mm_Run X d 69 mc ms (.ref q :: [.int x0]) h (WQ_ ["java/lang/UnsupportedOperationException"] o Q)) :
    vx_Met l yL_tear (Cond.codeWith yL_tear cL_tear 4 (some .int) [(0, 9, 12, 13)] :: lx_T) (mm_rm (d + 1) mc ms) (va_Pc [.ref q, .int x0, .ref o] (mm_B D tys b0 (Am_ D b0) h)) (mm_Qc D tys b0 (WP_ Q)) (mm_XC D tys b0 (WP_ Q)) mc ms (mm_A b0) := by
  refine lw_gen (n := 1) (As := [.int x0]) (ls := lv_args 0 [.ref q, .int x0, .ref o]) (a := 69) (idx := 15) (pc1 := 4) (L := 16) (ex := ["java/lang/UnsupportedOperationException"]) hty hl9 lx_sub hs rfl (Nat.le_of_ble_eq_true rfl) (lr_adv kk_Ltear 4 rfl lr_rf) hq hcell (by decide) rfl (lx_x 5 rfl) (lx_x 6 rfl) (lx_x 7 rfl) (lx_x 1 rfl) (by decide +kernel) rfl (by decide +kernel) (fun v h9 hq9 => ?_) (by decide +kernel) (fun E h9 hq9 => hq9) (fun i E hE => ?_) g
  · obtain ⟨x, g9, rfl, k1, k2, k3⟩ := wq_i hq9
    refine ⟨_, lv_args 0 [.ref q, .int x0, .ref o], k3, ?_⟩
    refine lr_adv kk_Ltear 1 (F2 := (8, [.long x.toInt64, .int (ki 0), .ref o], _, h9)) rfl ?_
    refine lr_sL (pc := 8) (n := 0) kk_Ltear rfl k1 k2 ?_
    refine lr_to (pc := 9) kk_Ltear 15 rfl rfl ?_
    exact lr_adv kk_Ltear 1 rfl lr_rf
  · match i, hE with
    | 0, hE =>
      cases hE
      exact ⟨[], [], (0, 9, 12, 13), 14, rfl, (fun z2 hz2 => nomatch hz2), ⟨by decide, by decide⟩, by decide, lx_x 4 rfl, am_c0 0 (by decide), fun q9 h9 => ⟨_, lr_adv kk_Ltear 2 rfl lr_rf⟩, by decide +kernel⟩
    | j + 1, hE => cases hE
theorem lw_halve (hty : tys.map (fun q => q.2) = mm_tyl) (hl9 : l.stackTraces = false) (hs : ∀ (d y c k : Nat) (args : List Value) (h : mm_S) (Q : mm_Re → Prop), mm_Run X d y c k args h Q → mm_Met l D tys b0 (Am_ D b0) d y c k args h Q) {x0 : Int32} (hq : q ∈ h.1) (hcell : h.2 q = .inr (5, fs)) (g : mm_Run X d 70 mc ms (.ref q :: [.int x0]) h (WQ_ ["java/lang/UnsupportedOperationException"] o Q)) :
    vx_Met l yL_halve (Cond.codeWith yL_halve cL_halve 4 (some .int) [(0, 9, 12, 13)] :: lx_T) (mm_rm (d + 1) mc ms) (va_Pc [.ref q, .int x0, .ref o] (mm_B D tys b0 (Am_ D b0) h)) (mm_Qc D tys b0 (WP_ Q)) (mm_XC D tys b0 (WP_ Q)) mc ms (mm_A b0) := by
  refine lw_gen (n := 1) (As := [.int x0]) (ls := lv_args 0 [.ref q, .int x0, .ref o]) (a := 70) (idx := 19) (pc1 := 4) (L := 16) (ex := ["java/lang/UnsupportedOperationException"]) hty hl9 lx_sub hs rfl (Nat.le_of_ble_eq_true rfl) (lr_adv kk_Lhalve 4 rfl lr_rf) hq hcell (by decide) rfl (lx_x 8 rfl) (lx_x 9 rfl) (lx_x 10 rfl) (lx_x 1 rfl) (by decide +kernel) rfl (by decide +kernel) (fun v h9 hq9 => ?_) (by decide +kernel) (fun E h9 hq9 => hq9) (fun i E hE => ?_) g
  · obtain ⟨x, g9, rfl, k1, k2, k3⟩ := wq_i hq9
    refine ⟨_, lv_args 0 [.ref q, .int x0, .ref o], k3, ?_⟩
    refine lr_adv kk_Lhalve 1 (F2 := (8, [.long x.toInt64, .int (ki 0), .ref o], _, h9)) rfl ?_
    refine lr_sL (pc := 8) (n := 0) kk_Lhalve rfl k1 k2 ?_
    refine lr_to (pc := 9) kk_Lhalve 15 rfl rfl ?_
    exact lr_adv kk_Lhalve 1 rfl lr_rf
  · match i, hE with
    | 0, hE =>
      cases hE
      exact ⟨[], [], (0, 9, 12, 13), 14, rfl, (fun z2 hz2 => nomatch hz2), ⟨by decide, by decide⟩, by decide, lx_x 4 rfl, am_c0 0 (by decide), fun q9 h9 => ⟨_, lr_adv kk_Lhalve 2 rfl lr_rf⟩, by decide +kernel⟩
    | j + 1, hE => cases hE
theorem lw_lease (hty : tys.map (fun q => q.2) = mm_tyl) (hl9 : l.stackTraces = false) (hs : ∀ (d y c k : Nat) (args : List Value) (h : mm_S) (Q : mm_Re → Prop), mm_Run X d y c k args h Q → mm_Met l D tys b0 (Am_ D b0) d y c k args h Q) {x0 x1 x2 : Int32} (hq : q ∈ h.1) (hcell : h.2 q = .inr (5, fs)) (g : mm_Run X d 71 mc ms (.ref q :: [.int x0, .int x1, .int x2]) h (WQ_ ["java/lang/UnsupportedOperationException"] o Q)) :
    vx_Met l yL_lease (Cond.codeWith yL_lease cL_lease 6 (some .int) [(0, 12, 15, 13)] :: lx_T) (mm_rm (d + 1) mc ms) (va_Pc [.ref q, .int x0, .int x1, .int x2, .ref o] (mm_B D tys b0 (Am_ D b0) h)) (mm_Qc D tys b0 (WP_ Q)) (mm_XC D tys b0 (WP_ Q)) mc ms (mm_A b0) := by
  refine lw_gen (n := 3) (As := [.int x0, .int x1, .int x2]) (ls := lv_args 0 [.ref q, .int x0, .int x1, .int x2, .ref o]) (a := 71) (idx := 22) (pc1 := 7) (L := 20) (ex := ["java/lang/UnsupportedOperationException"]) hty hl9 lx_sub hs rfl (Nat.le_of_ble_eq_true rfl) (lr_adv kk_Llease 6 rfl lr_rf) hq hcell (by decide) rfl (lx_x 11 rfl) (lx_x 12 rfl) (lx_x 13 rfl) (lx_x 1 rfl) (by decide +kernel) rfl (by decide +kernel) (fun v h9 hq9 => ?_) (by decide +kernel) (fun E h9 hq9 => hq9) (fun i E hE => ?_) g
  · obtain ⟨x, g9, rfl, k1, k2, k3⟩ := wq_i hq9
    refine ⟨_, lv_args 0 [.ref q, .int x0, .int x1, .int x2, .ref o], k3, ?_⟩
    refine lr_adv kk_Llease 1 (F2 := (11, [.long x.toInt64, .int (ki 0), .ref o], _, h9)) rfl ?_
    refine lr_sL (pc := 11) (n := 0) kk_Llease rfl k1 k2 ?_
    refine lr_to (pc := 12) kk_Llease 19 rfl rfl ?_
    exact lr_adv kk_Llease 1 rfl lr_rf
  · match i, hE with
    | 0, hE =>
      cases hE
      exact ⟨[], [], (0, 12, 15, 13), 18, rfl, (fun z2 hz2 => nomatch hz2), ⟨by decide, by decide⟩, by decide, lx_x 4 rfl, am_c0 0 (by decide), fun q9 h9 => ⟨_, lr_adv kk_Llease 2 rfl lr_rf⟩, by decide +kernel⟩
    | j + 1, hE => cases hE
theorem lw_climb (hty : tys.map (fun q => q.2) = mm_tyl) (hl9 : l.stackTraces = false) (hs : ∀ (d y c k : Nat) (args : List Value) (h : mm_S) (Q : mm_Re → Prop), mm_Run X d y c k args h Q → mm_Met l D tys b0 (Am_ D b0) d y c k args h Q) {x0 x1 : Int32} (hq : q ∈ h.1) (hcell : h.2 q = .inr (5, fs)) (g : mm_Run X d 72 mc ms (.ref q :: [.int x0, .int x1]) h (WQ_ ["java/lang/UnsupportedOperationException"] o Q)) :
    vx_Met l yL_climb (Cond.codeWith yL_climb cL_climb 5 (some .int) [(0, 10, 13, 13)] :: lx_T) (mm_rm (d + 1) mc ms) (va_Pc [.ref q, .int x0, .int x1, .ref o] (mm_B D tys b0 (Am_ D b0) h)) (mm_Qc D tys b0 (WP_ Q)) (mm_XC D tys b0 (WP_ Q)) mc ms (mm_A b0) := by
  refine lw_gen (n := 2) (As := [.int x0, .int x1]) (ls := lv_args 0 [.ref q, .int x0, .int x1, .ref o]) (a := 72) (idx := 25) (pc1 := 5) (L := 18) (ex := ["java/lang/UnsupportedOperationException"]) hty hl9 lx_sub hs rfl (Nat.le_of_ble_eq_true rfl) (lr_adv kk_Lclimb 5 rfl lr_rf) hq hcell (by decide) rfl (lx_x 14 rfl) (lx_x 15 rfl) (lx_x 16 rfl) (lx_x 1 rfl) (by decide +kernel) rfl (by decide +kernel) (fun v h9 hq9 => ?_) (by decide +kernel) (fun E h9 hq9 => hq9) (fun i E hE => ?_) g
  · obtain ⟨x, g9, rfl, k1, k2, k3⟩ := wq_i hq9
    refine ⟨_, lv_args 0 [.ref q, .int x0, .int x1, .ref o], k3, ?_⟩
    refine lr_adv kk_Lclimb 1 (F2 := (9, [.long x.toInt64, .int (ki 0), .ref o], _, h9)) rfl ?_
    refine lr_sL (pc := 9) (n := 0) kk_Lclimb rfl k1 k2 ?_
    refine lr_to (pc := 10) kk_Lclimb 17 rfl rfl ?_
    exact lr_adv kk_Lclimb 1 rfl lr_rf
  · match i, hE with
    | 0, hE =>
      cases hE
      exact ⟨[], [], (0, 10, 13, 13), 16, rfl, (fun z2 hz2 => nomatch hz2), ⟨by decide, by decide⟩, by decide, lx_x 4 rfl, am_c0 0 (by decide), fun q9 h9 => ⟨_, lr_adv kk_Lclimb 2 rfl lr_rf⟩, by decide +kernel⟩
    | j + 1, hE => cases hE
theorem lw_levy (hty : tys.map (fun q => q.2) = mm_tyl) (hl9 : l.stackTraces = false) (hs : ∀ (d y c k : Nat) (args : List Value) (h : mm_S) (Q : mm_Re → Prop), mm_Run X d y c k args h Q → mm_Met l D tys b0 (Am_ D b0) d y c k args h Q) {x0 x1 : Int32} (hq : q ∈ h.1) (hcell : h.2 q = .inr (5, fs)) (g : mm_Run X d 73 mc ms (.ref q :: [.int x0, .int x1]) h (WQ_ ["java/lang/UnsupportedOperationException"] o Q)) :
    vx_Met l yL_levy (Cond.codeWith yL_levy cL_levy 5 (some .int) [(0, 10, 13, 13)] :: lx_T) (mm_rm (d + 1) mc ms) (va_Pc [.ref q, .int x0, .int x1, .ref o] (mm_B D tys b0 (Am_ D b0) h)) (mm_Qc D tys b0 (WP_ Q)) (mm_XC D tys b0 (WP_ Q)) mc ms (mm_A b0) := by
  refine lw_gen (n := 2) (As := [.int x0, .int x1]) (ls := lv_args 0 [.ref q, .int x0, .int x1, .ref o]) (a := 73) (idx := 29) (pc1 := 5) (L := 18) (ex := ["java/lang/UnsupportedOperationException"]) hty hl9 lx_sub hs rfl (Nat.le_of_ble_eq_true rfl) (lr_adv kk_Llevy 5 rfl lr_rf) hq hcell (by decide) rfl (lx_x 17 rfl) (lx_x 18 rfl) (lx_x 19 rfl) (lx_x 1 rfl) (by decide +kernel) rfl (by decide +kernel) (fun v h9 hq9 => ?_) (by decide +kernel) (fun E h9 hq9 => hq9) (fun i E hE => ?_) g
  · obtain ⟨x, g9, rfl, k1, k2, k3⟩ := wq_i hq9
    refine ⟨_, lv_args 0 [.ref q, .int x0, .int x1, .ref o], k3, ?_⟩
    refine lr_adv kk_Llevy 1 (F2 := (9, [.long x.toInt64, .int (ki 0), .ref o], _, h9)) rfl ?_
    refine lr_sL (pc := 9) (n := 0) kk_Llevy rfl k1 k2 ?_
    refine lr_to (pc := 10) kk_Llevy 17 rfl rfl ?_
    exact lr_adv kk_Llevy 1 rfl lr_rf
  · match i, hE with
    | 0, hE =>
      cases hE
      exact ⟨[], [], (0, 10, 13, 13), 16, rfl, (fun z2 hz2 => nomatch hz2), ⟨by decide, by decide⟩, by decide, lx_x 4 rfl, am_c0 0 (by decide), fun q9 h9 => ⟨_, lr_adv kk_Llevy 2 rfl lr_rf⟩, by decide +kernel⟩
    | j + 1, hE => cases hE
theorem lw_take (hty : tys.map (fun q => q.2) = mm_tyl) (hl9 : l.stackTraces = false) (hs : ∀ (d y c k : Nat) (args : List Value) (h : mm_S) (Q : mm_Re → Prop), mm_Run X d y c k args h Q → mm_Met l D tys b0 (Am_ D b0) d y c k args h Q) {x0 : Int32} (hq : q ∈ h.1) (hcell : h.2 q = .inr (5, fs)) (g : mm_Run X d 74 mc ms (.ref q :: [.int x0]) h (WQ_ ["java/lang/UnsupportedOperationException"] o Q)) :
    vx_Met l yL_take (Cond.codeWith yL_take cL_take 4 (some .int) [(0, 9, 12, 13)] :: lx_T) (mm_rm (d + 1) mc ms) (va_Pc [.ref q, .int x0, .ref o] (mm_B D tys b0 (Am_ D b0) h)) (mm_Qc D tys b0 (WP_ Q)) (mm_XC D tys b0 (WP_ Q)) mc ms (mm_A b0) := by
  refine lw_gen (n := 1) (As := [.int x0]) (ls := lv_args 0 [.ref q, .int x0, .ref o]) (a := 74) (idx := 32) (pc1 := 4) (L := 16) (ex := ["java/lang/UnsupportedOperationException"]) hty hl9 lx_sub hs rfl (Nat.le_of_ble_eq_true rfl) (lr_adv kk_Ltake 4 rfl lr_rf) hq hcell (by decide) rfl (lx_x 20 rfl) (lx_x 21 rfl) (lx_x 22 rfl) (lx_x 1 rfl) (by decide +kernel) rfl (by decide +kernel) (fun v h9 hq9 => ?_) (by decide +kernel) (fun E h9 hq9 => hq9) (fun i E hE => ?_) g
  · obtain ⟨x, g9, rfl, k1, k2, k3⟩ := wq_i hq9
    refine ⟨_, lv_args 0 [.ref q, .int x0, .ref o], k3, ?_⟩
    refine lr_adv kk_Ltake 1 (F2 := (8, [.long x.toInt64, .int (ki 0), .ref o], _, h9)) rfl ?_
    refine lr_sL (pc := 8) (n := 0) kk_Ltake rfl k1 k2 ?_
    refine lr_to (pc := 9) kk_Ltake 15 rfl rfl ?_
    exact lr_adv kk_Ltake 1 rfl lr_rf
  · match i, hE with
    | 0, hE =>
      cases hE
      exact ⟨[], [], (0, 9, 12, 13), 14, rfl, (fun z2 hz2 => nomatch hz2), ⟨by decide, by decide⟩, by decide, lx_x 4 rfl, am_c0 0 (by decide), fun q9 h9 => ⟨_, lr_adv kk_Ltake 2 rfl lr_rf⟩, by decide +kernel⟩
    | j + 1, hE => cases hE
theorem lw_free (hty : tys.map (fun q => q.2) = mm_tyl) (hl9 : l.stackTraces = false) (hs : ∀ (d y c k : Nat) (args : List Value) (h : mm_S) (Q : mm_Re → Prop), mm_Run X d y c k args h Q → mm_Met l D tys b0 (Am_ D b0) d y c k args h Q) {x0 x1 : Int32} (hq : q ∈ h.1) (hcell : h.2 q = .inr (5, fs)) (g : mm_Run X d 75 mc ms (.ref q :: [.int x0, .int x1]) h (WQ_ ["java/lang/UnsupportedOperationException"] o Q)) :
    vx_Met l yL_free (Cond.codeWith yL_free cL_free 5 (some .int) [(0, 10, 13, 13)] :: lx_T) (mm_rm (d + 1) mc ms) (va_Pc [.ref q, .int x0, .int x1, .ref o] (mm_B D tys b0 (Am_ D b0) h)) (mm_Qc D tys b0 (WP_ Q)) (mm_XC D tys b0 (WP_ Q)) mc ms (mm_A b0) := by
  refine lw_gen (n := 2) (As := [.int x0, .int x1]) (ls := lv_args 0 [.ref q, .int x0, .int x1, .ref o]) (a := 75) (idx := 35) (pc1 := 5) (L := 18) (ex := ["java/lang/UnsupportedOperationException"]) hty hl9 lx_sub hs rfl (Nat.le_of_ble_eq_true rfl) (lr_adv kk_Lfree 5 rfl lr_rf) hq hcell (by decide) rfl (lx_x 23 rfl) (lx_x 24 rfl) (lx_x 25 rfl) (lx_x 1 rfl) (by decide +kernel) rfl (by decide +kernel) (fun v h9 hq9 => ?_) (by decide +kernel) (fun E h9 hq9 => hq9) (fun i E hE => ?_) g
  · obtain ⟨x, g9, rfl, k1, k2, k3⟩ := wq_i hq9
    refine ⟨_, lv_args 0 [.ref q, .int x0, .int x1, .ref o], k3, ?_⟩
    refine lr_adv kk_Lfree 1 (F2 := (9, [.long x.toInt64, .int (ki 0), .ref o], _, h9)) rfl ?_
    refine lr_sL (pc := 9) (n := 0) kk_Lfree rfl k1 k2 ?_
    refine lr_to (pc := 10) kk_Lfree 17 rfl rfl ?_
    exact lr_adv kk_Lfree 1 rfl lr_rf
  · match i, hE with
    | 0, hE =>
      cases hE
      exact ⟨[], [], (0, 10, 13, 13), 16, rfl, (fun z2 hz2 => nomatch hz2), ⟨by decide, by decide⟩, by decide, lx_x 4 rfl, am_c0 0 (by decide), fun q9 h9 => ⟨_, lr_adv kk_Lfree 2 rfl lr_rf⟩, by decide +kernel⟩
    | j + 1, hE => cases hE
theorem lw_giantOf (hty : tys.map (fun q => q.2) = mm_tyl) (hl9 : l.stackTraces = false) (hs : ∀ (d y c k : Nat) (args : List Value) (h : mm_S) (Q : mm_Re → Prop), mm_Run X d y c k args h Q → mm_Met l D tys b0 (Am_ D b0) d y c k args h Q) {x0 x1 : Int32} (hq : q ∈ h.1) (hcell : h.2 q = .inr (5, fs)) (g : mm_Run X d 77 mc ms (.ref q :: [.int x0, .int x1]) h (WQ_ ["java/lang/IndexOutOfBoundsException", "java/lang/IllegalArgumentException"] o Q)) :
    vx_Met l yL_giantOf (Cond.codeWith yL_giantOf cL_giantOf 5 (some .int) [(0, 10, 13, 41), (0, 10, 17, 43)] :: lx_T) (mm_rm (d + 1) mc ms) (va_Pc [.ref q, .int x0, .int x1, .ref o] (mm_B D tys b0 (Am_ D b0) h)) (mm_Qc D tys b0 (WP_ Q)) (mm_XC D tys b0 (WP_ Q)) mc ms (mm_A b0) := by
  refine lw_gen (n := 2) (As := [.int x0, .int x1]) (ls := lv_args 0 [.ref q, .int x0, .int x1, .ref o]) (a := 77) (idx := 38) (pc1 := 5) (L := 22) (ex := ["java/lang/IndexOutOfBoundsException", "java/lang/IllegalArgumentException"]) hty hl9 lx_sub hs rfl (Nat.le_of_ble_eq_true rfl) (lr_adv kk_LgiantOf 5 rfl lr_rf) hq hcell (by decide) rfl (lx_x 26 rfl) (lx_x 27 rfl) (lx_x 28 rfl) (lx_x 1 rfl) (by decide +kernel) rfl (by decide +kernel) (fun v h9 hq9 => ?_) (by decide +kernel) (fun E h9 hq9 => hq9) (fun i E hE => ?_) g
  · obtain ⟨x, g9, rfl, k1, k2, k3⟩ := wq_i hq9
    refine ⟨_, lv_args 0 [.ref q, .int x0, .int x1, .ref o], k3, ?_⟩
    refine lr_adv kk_LgiantOf 1 (F2 := (9, [.long x.toInt64, .int (ki 0), .ref o], _, h9)) rfl ?_
    refine lr_sL (pc := 9) (n := 0) kk_LgiantOf rfl k1 k2 ?_
    refine lr_to (pc := 10) kk_LgiantOf 21 rfl rfl ?_
    exact lr_adv kk_LgiantOf 1 rfl lr_rf
  · match i, hE with
    | 0, hE =>
      cases hE
      exact ⟨[], [(0, 10, 17, 43)], (0, 10, 13, 41), 16, rfl, (fun z2 hz2 => nomatch hz2), ⟨by decide, by decide⟩, by decide, lx_x 29 rfl, am_c0 1 (by decide), fun q9 h9 => ⟨_, lr_adv kk_LgiantOf 2 rfl lr_rf⟩, by decide +kernel⟩
    | 1, hE =>
      cases hE
      exact ⟨[(0, 10, 13, 41)], [], (0, 10, 17, 43), 20, rfl, (fun z2 hz2 => by obtain rfl := List.mem_singleton.mp hz2; exact ⟨by decide, "java/lang/IndexOutOfBoundsException", lx_x 29 rfl, by decide⟩), ⟨by decide, by decide⟩, by decide, lx_x 30 rfl, am_c0 2 (by decide), fun q9 h9 => ⟨_, lr_adv kk_LgiantOf 2 rfl lr_rf⟩, by decide +kernel⟩
    | j + 2, hE => cases hE
theorem lw_landingOf (hty : tys.map (fun q => q.2) = mm_tyl) (hl9 : l.stackTraces = false) (hs : ∀ (d y c k : Nat) (args : List Value) (h : mm_S) (Q : mm_Re → Prop), mm_Run X d y c k args h Q → mm_Met l D tys b0 (Am_ D b0) d y c k args h Q) {x0 x1 : Int32} (hq : q ∈ h.1) (hcell : h.2 q = .inr (5, fs)) (g : mm_Run X d 78 mc ms (.ref q :: [.int x0, .int x1]) h (WQ_ ["java/lang/IndexOutOfBoundsException", "java/lang/IllegalArgumentException"] o Q)) :
    vx_Met l yL_landingOf (Cond.codeWith yL_landingOf cL_landingOf 5 (some .int) [(0, 10, 13, 41), (0, 10, 17, 43)] :: lx_T) (mm_rm (d + 1) mc ms) (va_Pc [.ref q, .int x0, .int x1, .ref o] (mm_B D tys b0 (Am_ D b0) h)) (mm_Qc D tys b0 (WP_ Q)) (mm_XC D tys b0 (WP_ Q)) mc ms (mm_A b0) := by
  refine lw_gen (n := 2) (As := [.int x0, .int x1]) (ls := lv_args 0 [.ref q, .int x0, .int x1, .ref o]) (a := 78) (idx := 45) (pc1 := 5) (L := 22) (ex := ["java/lang/IndexOutOfBoundsException", "java/lang/IllegalArgumentException"]) hty hl9 lx_sub hs rfl (Nat.le_of_ble_eq_true rfl) (lr_adv kk_LlandingOf 5 rfl lr_rf) hq hcell (by decide) rfl (lx_x 31 rfl) (lx_x 32 rfl) (lx_x 33 rfl) (lx_x 1 rfl) (by decide +kernel) rfl (by decide +kernel) (fun v h9 hq9 => ?_) (by decide +kernel) (fun E h9 hq9 => hq9) (fun i E hE => ?_) g
  · obtain ⟨x, g9, rfl, k1, k2, k3⟩ := wq_i hq9
    refine ⟨_, lv_args 0 [.ref q, .int x0, .int x1, .ref o], k3, ?_⟩
    refine lr_adv kk_LlandingOf 1 (F2 := (9, [.long x.toInt64, .int (ki 0), .ref o], _, h9)) rfl ?_
    refine lr_sL (pc := 9) (n := 0) kk_LlandingOf rfl k1 k2 ?_
    refine lr_to (pc := 10) kk_LlandingOf 21 rfl rfl ?_
    exact lr_adv kk_LlandingOf 1 rfl lr_rf
  · match i, hE with
    | 0, hE =>
      cases hE
      exact ⟨[], [(0, 10, 17, 43)], (0, 10, 13, 41), 16, rfl, (fun z2 hz2 => nomatch hz2), ⟨by decide, by decide⟩, by decide, lx_x 29 rfl, am_c0 1 (by decide), fun q9 h9 => ⟨_, lr_adv kk_LlandingOf 2 rfl lr_rf⟩, by decide +kernel⟩
    | 1, hE =>
      cases hE
      exact ⟨[(0, 10, 13, 41)], [], (0, 10, 17, 43), 20, rfl, (fun z2 hz2 => by obtain rfl := List.mem_singleton.mp hz2; exact ⟨by decide, "java/lang/IndexOutOfBoundsException", lx_x 29 rfl, by decide⟩), ⟨by decide, by decide⟩, by decide, lx_x 30 rfl, am_c0 2 (by decide), fun q9 h9 => ⟨_, lr_adv kk_LlandingOf 2 rfl lr_rf⟩, by decide +kernel⟩
    | j + 2, hE => cases hE
theorem lw_stairOf (hty : tys.map (fun q => q.2) = mm_tyl) (hl9 : l.stackTraces = false) (hs : ∀ (d y c k : Nat) (args : List Value) (h : mm_S) (Q : mm_Re → Prop), mm_Run X d y c k args h Q → mm_Met l D tys b0 (Am_ D b0) d y c k args h Q) {x0 x1 : Int32} (hq : q ∈ h.1) (hcell : h.2 q = .inr (5, fs)) (g : mm_Run X d 79 mc ms (.ref q :: [.int x0, .int x1]) h (WQ_ ["java/lang/IndexOutOfBoundsException", "java/lang/IllegalArgumentException"] o Q)) :
    vx_Met l yL_stairOf (Cond.codeWith yL_stairOf cL_stairOf 5 (some .int) [(0, 10, 13, 41), (0, 10, 17, 43)] :: lx_T) (mm_rm (d + 1) mc ms) (va_Pc [.ref q, .int x0, .int x1, .ref o] (mm_B D tys b0 (Am_ D b0) h)) (mm_Qc D tys b0 (WP_ Q)) (mm_XC D tys b0 (WP_ Q)) mc ms (mm_A b0) := by
  refine lw_gen (n := 2) (As := [.int x0, .int x1]) (ls := lv_args 0 [.ref q, .int x0, .int x1, .ref o]) (a := 79) (idx := 48) (pc1 := 5) (L := 22) (ex := ["java/lang/IndexOutOfBoundsException", "java/lang/IllegalArgumentException"]) hty hl9 lx_sub hs rfl (Nat.le_of_ble_eq_true rfl) (lr_adv kk_LstairOf 5 rfl lr_rf) hq hcell (by decide) rfl (lx_x 34 rfl) (lx_x 35 rfl) (lx_x 36 rfl) (lx_x 1 rfl) (by decide +kernel) rfl (by decide +kernel) (fun v h9 hq9 => ?_) (by decide +kernel) (fun E h9 hq9 => hq9) (fun i E hE => ?_) g
  · obtain ⟨x, g9, rfl, k1, k2, k3⟩ := wq_i hq9
    refine ⟨_, lv_args 0 [.ref q, .int x0, .int x1, .ref o], k3, ?_⟩
    refine lr_adv kk_LstairOf 1 (F2 := (9, [.long x.toInt64, .int (ki 0), .ref o], _, h9)) rfl ?_
    refine lr_sL (pc := 9) (n := 0) kk_LstairOf rfl k1 k2 ?_
    refine lr_to (pc := 10) kk_LstairOf 21 rfl rfl ?_
    exact lr_adv kk_LstairOf 1 rfl lr_rf
  · match i, hE with
    | 0, hE =>
      cases hE
      exact ⟨[], [(0, 10, 17, 43)], (0, 10, 13, 41), 16, rfl, (fun z2 hz2 => nomatch hz2), ⟨by decide, by decide⟩, by decide, lx_x 29 rfl, am_c0 1 (by decide), fun q9 h9 => ⟨_, lr_adv kk_LstairOf 2 rfl lr_rf⟩, by decide +kernel⟩
    | 1, hE =>
      cases hE
      exact ⟨[(0, 10, 13, 41)], [], (0, 10, 17, 43), 20, rfl, (fun z2 hz2 => by obtain rfl := List.mem_singleton.mp hz2; exact ⟨by decide, "java/lang/IndexOutOfBoundsException", lx_x 29 rfl, by decide⟩), ⟨by decide, by decide⟩, by decide, lx_x 30 rfl, am_c0 2 (by decide), fun q9 h9 => ⟨_, lr_adv kk_LstairOf 2 rfl lr_rf⟩, by decide +kernel⟩
    | j + 2, hE => cases hE
theorem lw_between (hty : tys.map (fun q => q.2) = mm_tyl) (hl9 : l.stackTraces = false) (hs : ∀ (d y c k : Nat) (args : List Value) (h : mm_S) (Q : mm_Re → Prop), mm_Run X d y c k args h Q → mm_Met l D tys b0 (Am_ D b0) d y c k args h Q) {x0 x1 : Int32} (hq : q ∈ h.1) (hcell : h.2 q = .inr (5, fs)) (g : mm_Run X d 80 mc ms (.ref q :: [.int x0, .int x1]) h (WQ_ ["java/lang/IndexOutOfBoundsException", "java/util/NoSuchElementException"] o Q)) :
    vx_Met l yL_between (Cond.codeWith yL_between cL_between 5 (some .int) [(0, 10, 13, 41), (0, 10, 17, 54)] :: lx_T) (mm_rm (d + 1) mc ms) (va_Pc [.ref q, .int x0, .int x1, .ref o] (mm_B D tys b0 (Am_ D b0) h)) (mm_Qc D tys b0 (WP_ Q)) (mm_XC D tys b0 (WP_ Q)) mc ms (mm_A b0) := by
  refine lw_gen (n := 2) (As := [.int x0, .int x1]) (ls := lv_args 0 [.ref q, .int x0, .int x1, .ref o]) (a := 80) (idx := 51) (pc1 := 5) (L := 22) (ex := ["java/lang/IndexOutOfBoundsException", "java/util/NoSuchElementException"]) hty hl9 lx_sub hs rfl (Nat.le_of_ble_eq_true rfl) (lr_adv kk_Lbetween 5 rfl lr_rf) hq hcell (by decide) rfl (lx_x 37 rfl) (lx_x 38 rfl) (lx_x 39 rfl) (lx_x 1 rfl) (by decide +kernel) rfl (by decide +kernel) (fun v h9 hq9 => ?_) (by decide +kernel) (fun E h9 hq9 => hq9) (fun i E hE => ?_) g
  · obtain ⟨x, g9, rfl, k1, k2, k3⟩ := wq_i hq9
    refine ⟨_, lv_args 0 [.ref q, .int x0, .int x1, .ref o], k3, ?_⟩
    refine lr_adv kk_Lbetween 1 (F2 := (9, [.long x.toInt64, .int (ki 0), .ref o], _, h9)) rfl ?_
    refine lr_sL (pc := 9) (n := 0) kk_Lbetween rfl k1 k2 ?_
    refine lr_to (pc := 10) kk_Lbetween 21 rfl rfl ?_
    exact lr_adv kk_Lbetween 1 rfl lr_rf
  · match i, hE with
    | 0, hE =>
      cases hE
      exact ⟨[], [(0, 10, 17, 54)], (0, 10, 13, 41), 16, rfl, (fun z2 hz2 => nomatch hz2), ⟨by decide, by decide⟩, by decide, lx_x 29 rfl, am_c0 1 (by decide), fun q9 h9 => ⟨_, lr_adv kk_Lbetween 2 rfl lr_rf⟩, by decide +kernel⟩
    | 1, hE =>
      cases hE
      exact ⟨[(0, 10, 13, 41)], [], (0, 10, 17, 54), 20, rfl, (fun z2 hz2 => by obtain rfl := List.mem_singleton.mp hz2; exact ⟨by decide, "java/lang/IndexOutOfBoundsException", lx_x 29 rfl, by decide⟩), ⟨by decide, by decide⟩, by decide, lx_x 40 rfl, am_c0 3 (by decide), fun q9 h9 => ⟨_, lr_adv kk_Lbetween 2 rfl lr_rf⟩, by decide +kernel⟩
    | j + 2, hE => cases hE
theorem lw_breaths (hty : tys.map (fun q => q.2) = mm_tyl) (hl9 : l.stackTraces = false) (hs : ∀ (d y c k : Nat) (args : List Value) (h : mm_S) (Q : mm_Re → Prop), mm_Run X d y c k args h Q → mm_Met l D tys b0 (Am_ D b0) d y c k args h Q) {x0 x1 : Int32} (hq : q ∈ h.1) (hcell : h.2 q = .inr (5, fs)) (g : mm_Run X d 81 mc ms (.ref q :: [.int x0, .int x1]) h (WQ_ ["java/lang/IndexOutOfBoundsException"] o Q)) :
    vx_Met l yL_breaths (Cond.codeWith yL_breaths cL_breaths 5 (some .int) [(0, 10, 13, 41)] :: lx_T) (mm_rm (d + 1) mc ms) (va_Pc [.ref q, .int x0, .int x1, .ref o] (mm_B D tys b0 (Am_ D b0) h)) (mm_Qc D tys b0 (WP_ Q)) (mm_XC D tys b0 (WP_ Q)) mc ms (mm_A b0) := by
  refine lw_gen (n := 2) (As := [.int x0, .int x1]) (ls := lv_args 0 [.ref q, .int x0, .int x1, .ref o]) (a := 81) (idx := 56) (pc1 := 5) (L := 18) (ex := ["java/lang/IndexOutOfBoundsException"]) hty hl9 lx_sub hs rfl (Nat.le_of_ble_eq_true rfl) (lr_adv kk_Lbreaths 5 rfl lr_rf) hq hcell (by decide) rfl (lx_x 41 rfl) (lx_x 42 rfl) (lx_x 43 rfl) (lx_x 1 rfl) (by decide +kernel) rfl (by decide +kernel) (fun v h9 hq9 => ?_) (by decide +kernel) (fun E h9 hq9 => hq9) (fun i E hE => ?_) g
  · obtain ⟨x, g9, rfl, k1, k2, k3⟩ := wq_i hq9
    refine ⟨_, lv_args 0 [.ref q, .int x0, .int x1, .ref o], k3, ?_⟩
    refine lr_adv kk_Lbreaths 1 (F2 := (9, [.long x.toInt64, .int (ki 0), .ref o], _, h9)) rfl ?_
    refine lr_sL (pc := 9) (n := 0) kk_Lbreaths rfl k1 k2 ?_
    refine lr_to (pc := 10) kk_Lbreaths 17 rfl rfl ?_
    exact lr_adv kk_Lbreaths 1 rfl lr_rf
  · match i, hE with
    | 0, hE =>
      cases hE
      exact ⟨[], [], (0, 10, 13, 41), 16, rfl, (fun z2 hz2 => nomatch hz2), ⟨by decide, by decide⟩, by decide, lx_x 29 rfl, am_c0 1 (by decide), fun q9 h9 => ⟨_, lr_adv kk_Lbreaths 2 rfl lr_rf⟩, by decide +kernel⟩
    | j + 1, hE => cases hE
theorem lw_steps (hty : tys.map (fun q => q.2) = mm_tyl) (hl9 : l.stackTraces = false) (hs : ∀ (d y c k : Nat) (args : List Value) (h : mm_S) (Q : mm_Re → Prop), mm_Run X d y c k args h Q → mm_Met l D tys b0 (Am_ D b0) d y c k args h Q) {x0 x1 : Int32} (hq : q ∈ h.1) (hcell : h.2 q = .inr (5, fs)) (g : mm_Run X d 82 mc ms (.ref q :: [.int x0, .int x1]) h (WQ_ ["java/lang/IndexOutOfBoundsException", "java/util/NoSuchElementException"] o Q)) :
    vx_Met l yL_steps (Cond.codeWith yL_steps cL_steps 5 (some .int) [(0, 10, 13, 41), (0, 10, 17, 54)] :: lx_T) (mm_rm (d + 1) mc ms) (va_Pc [.ref q, .int x0, .int x1, .ref o] (mm_B D tys b0 (Am_ D b0) h)) (mm_Qc D tys b0 (WP_ Q)) (mm_XC D tys b0 (WP_ Q)) mc ms (mm_A b0) := by
  refine lw_gen (n := 2) (As := [.int x0, .int x1]) (ls := lv_args 0 [.ref q, .int x0, .int x1, .ref o]) (a := 82) (idx := 59) (pc1 := 5) (L := 22) (ex := ["java/lang/IndexOutOfBoundsException", "java/util/NoSuchElementException"]) hty hl9 lx_sub hs rfl (Nat.le_of_ble_eq_true rfl) (lr_adv kk_Lsteps 5 rfl lr_rf) hq hcell (by decide) rfl (lx_x 44 rfl) (lx_x 45 rfl) (lx_x 46 rfl) (lx_x 1 rfl) (by decide +kernel) rfl (by decide +kernel) (fun v h9 hq9 => ?_) (by decide +kernel) (fun E h9 hq9 => hq9) (fun i E hE => ?_) g
  · obtain ⟨x, g9, rfl, k1, k2, k3⟩ := wq_i hq9
    refine ⟨_, lv_args 0 [.ref q, .int x0, .int x1, .ref o], k3, ?_⟩
    refine lr_adv kk_Lsteps 1 (F2 := (9, [.long x.toInt64, .int (ki 0), .ref o], _, h9)) rfl ?_
    refine lr_sL (pc := 9) (n := 0) kk_Lsteps rfl k1 k2 ?_
    refine lr_to (pc := 10) kk_Lsteps 21 rfl rfl ?_
    exact lr_adv kk_Lsteps 1 rfl lr_rf
  · match i, hE with
    | 0, hE =>
      cases hE
      exact ⟨[], [(0, 10, 17, 54)], (0, 10, 13, 41), 16, rfl, (fun z2 hz2 => nomatch hz2), ⟨by decide, by decide⟩, by decide, lx_x 29 rfl, am_c0 1 (by decide), fun q9 h9 => ⟨_, lr_adv kk_Lsteps 2 rfl lr_rf⟩, by decide +kernel⟩
    | 1, hE =>
      cases hE
      exact ⟨[(0, 10, 13, 41)], [], (0, 10, 17, 54), 20, rfl, (fun z2 hz2 => by obtain rfl := List.mem_singleton.mp hz2; exact ⟨by decide, "java/lang/IndexOutOfBoundsException", lx_x 29 rfl, by decide⟩), ⟨by decide, by decide⟩, by decide, lx_x 40 rfl, am_c0 3 (by decide), fun q9 h9 => ⟨_, lr_adv kk_Lsteps 2 rfl lr_rf⟩, by decide +kernel⟩
    | j + 2, hE => cases hE
theorem lw_stepsAgain (hty : tys.map (fun q => q.2) = mm_tyl) (hl9 : l.stackTraces = false) (hs : ∀ (d y c k : Nat) (args : List Value) (h : mm_S) (Q : mm_Re → Prop), mm_Run X d y c k args h Q → mm_Met l D tys b0 (Am_ D b0) d y c k args h Q) {x0 x1 : Int32} (hq : q ∈ h.1) (hcell : h.2 q = .inr (5, fs)) (g : mm_Run X d 83 mc ms (.ref q :: [.int x0, .int x1]) h (WQ_ ["java/lang/IndexOutOfBoundsException", "java/util/NoSuchElementException"] o Q)) :
    vx_Met l yL_stepsAgain (Cond.codeWith yL_stepsAgain cL_stepsAgain 5 (some .int) [(0, 10, 13, 41), (0, 10, 17, 54)] :: lx_T) (mm_rm (d + 1) mc ms) (va_Pc [.ref q, .int x0, .int x1, .ref o] (mm_B D tys b0 (Am_ D b0) h)) (mm_Qc D tys b0 (WP_ Q)) (mm_XC D tys b0 (WP_ Q)) mc ms (mm_A b0) := by
  refine lw_gen (n := 2) (As := [.int x0, .int x1]) (ls := lv_args 0 [.ref q, .int x0, .int x1, .ref o]) (a := 83) (idx := 62) (pc1 := 5) (L := 22) (ex := ["java/lang/IndexOutOfBoundsException", "java/util/NoSuchElementException"]) hty hl9 lx_sub hs rfl (Nat.le_of_ble_eq_true rfl) (lr_adv kk_LstepsAgain 5 rfl lr_rf) hq hcell (by decide) rfl (lx_x 47 rfl) (lx_x 48 rfl) (lx_x 49 rfl) (lx_x 1 rfl) (by decide +kernel) rfl (by decide +kernel) (fun v h9 hq9 => ?_) (by decide +kernel) (fun E h9 hq9 => hq9) (fun i E hE => ?_) g
  · obtain ⟨x, g9, rfl, k1, k2, k3⟩ := wq_i hq9
    refine ⟨_, lv_args 0 [.ref q, .int x0, .int x1, .ref o], k3, ?_⟩
    refine lr_adv kk_LstepsAgain 1 (F2 := (9, [.long x.toInt64, .int (ki 0), .ref o], _, h9)) rfl ?_
    refine lr_sL (pc := 9) (n := 0) kk_LstepsAgain rfl k1 k2 ?_
    refine lr_to (pc := 10) kk_LstepsAgain 21 rfl rfl ?_
    exact lr_adv kk_LstepsAgain 1 rfl lr_rf
  · match i, hE with
    | 0, hE =>
      cases hE
      exact ⟨[], [(0, 10, 17, 54)], (0, 10, 13, 41), 16, rfl, (fun z2 hz2 => nomatch hz2), ⟨by decide, by decide⟩, by decide, lx_x 29 rfl, am_c0 1 (by decide), fun q9 h9 => ⟨_, lr_adv kk_LstepsAgain 2 rfl lr_rf⟩, by decide +kernel⟩
    | 1, hE =>
      cases hE
      exact ⟨[(0, 10, 13, 41)], [], (0, 10, 17, 54), 20, rfl, (fun z2 hz2 => by obtain rfl := List.mem_singleton.mp hz2; exact ⟨by decide, "java/lang/IndexOutOfBoundsException", lx_x 29 rfl, by decide⟩), ⟨by decide, by decide⟩, by decide, lx_x 40 rfl, am_c0 3 (by decide), fun q9 h9 => ⟨_, lr_adv kk_LstepsAgain 2 rfl lr_rf⟩, by decide +kernel⟩
    | j + 2, hE => cases hE
theorem lw_way (hty : tys.map (fun q => q.2) = mm_tyl) (hl9 : l.stackTraces = false) (hs : ∀ (d y c k : Nat) (args : List Value) (h : mm_S) (Q : mm_Re → Prop), mm_Run X d y c k args h Q → mm_Met l D tys b0 (Am_ D b0) d y c k args h Q) {x0 x1 : Int32} (hq : q ∈ h.1) (hcell : h.2 q = .inr (5, fs)) (g : mm_Run X d 84 mc ms (.ref q :: [.int x0, .int x1]) h (WQ_ ["java/lang/IndexOutOfBoundsException", "java/util/NoSuchElementException"] o Q)) :
    vx_Met l yL_way (Cond.codeWith yL_way cL_way 5 (some .int) [(0, 10, 13, 41), (0, 10, 17, 54)] :: lx_T) (mm_rm (d + 1) mc ms) (va_Pc [.ref q, .int x0, .int x1, .ref o] (mm_B D tys b0 (Am_ D b0) h)) (mm_Qc D tys b0 (WP_ Q)) (mm_XC D tys b0 (WP_ Q)) mc ms (mm_A b0) := by
  refine lw_gen (n := 2) (As := [.int x0, .int x1]) (ls := lv_args 0 [.ref q, .int x0, .int x1, .ref o]) (a := 84) (idx := 65) (pc1 := 5) (L := 22) (ex := ["java/lang/IndexOutOfBoundsException", "java/util/NoSuchElementException"]) hty hl9 lx_sub hs rfl (Nat.le_of_ble_eq_true rfl) (lr_adv kk_Lway 5 rfl lr_rf) hq hcell (by decide) rfl (lx_x 50 rfl) (lx_x 51 rfl) (lx_x 52 rfl) (lx_x 1 rfl) (by decide +kernel) rfl (by decide +kernel) (fun v h9 hq9 => ?_) (by decide +kernel) (fun E h9 hq9 => hq9) (fun i E hE => ?_) g
  · obtain ⟨x, g9, rfl, k1, k2, k3⟩ := wq_i hq9
    refine ⟨_, lv_args 0 [.ref q, .int x0, .int x1, .ref o], k3, ?_⟩
    refine lr_adv kk_Lway 1 (F2 := (9, [.long x.toInt64, .int (ki 0), .ref o], _, h9)) rfl ?_
    refine lr_sL (pc := 9) (n := 0) kk_Lway rfl k1 k2 ?_
    refine lr_to (pc := 10) kk_Lway 21 rfl rfl ?_
    exact lr_adv kk_Lway 1 rfl lr_rf
  · match i, hE with
    | 0, hE =>
      cases hE
      exact ⟨[], [(0, 10, 17, 54)], (0, 10, 13, 41), 16, rfl, (fun z2 hz2 => nomatch hz2), ⟨by decide, by decide⟩, by decide, lx_x 29 rfl, am_c0 1 (by decide), fun q9 h9 => ⟨_, lr_adv kk_Lway 2 rfl lr_rf⟩, by decide +kernel⟩
    | 1, hE =>
      cases hE
      exact ⟨[(0, 10, 13, 41)], [], (0, 10, 17, 54), 20, rfl, (fun z2 hz2 => by obtain rfl := List.mem_singleton.mp hz2; exact ⟨by decide, "java/lang/IndexOutOfBoundsException", lx_x 29 rfl, by decide⟩), ⟨by decide, by decide⟩, by decide, lx_x 40 rfl, am_c0 3 (by decide), fun q9 h9 => ⟨_, lr_adv kk_Lway 2 rfl lr_rf⟩, by decide +kernel⟩
    | j + 2, hE => cases hE
theorem lw_wayAgain (hty : tys.map (fun q => q.2) = mm_tyl) (hl9 : l.stackTraces = false) (hs : ∀ (d y c k : Nat) (args : List Value) (h : mm_S) (Q : mm_Re → Prop), mm_Run X d y c k args h Q → mm_Met l D tys b0 (Am_ D b0) d y c k args h Q) {x0 x1 : Int32} (hq : q ∈ h.1) (hcell : h.2 q = .inr (5, fs)) (g : mm_Run X d 85 mc ms (.ref q :: [.int x0, .int x1]) h (WQ_ ["java/lang/IndexOutOfBoundsException", "java/util/NoSuchElementException"] o Q)) :
    vx_Met l yL_wayAgain (Cond.codeWith yL_wayAgain cL_wayAgain 5 (some .int) [(0, 10, 13, 41), (0, 10, 17, 54)] :: lx_T) (mm_rm (d + 1) mc ms) (va_Pc [.ref q, .int x0, .int x1, .ref o] (mm_B D tys b0 (Am_ D b0) h)) (mm_Qc D tys b0 (WP_ Q)) (mm_XC D tys b0 (WP_ Q)) mc ms (mm_A b0) := by
  refine lw_gen (n := 2) (As := [.int x0, .int x1]) (ls := lv_args 0 [.ref q, .int x0, .int x1, .ref o]) (a := 85) (idx := 68) (pc1 := 5) (L := 22) (ex := ["java/lang/IndexOutOfBoundsException", "java/util/NoSuchElementException"]) hty hl9 lx_sub hs rfl (Nat.le_of_ble_eq_true rfl) (lr_adv kk_LwayAgain 5 rfl lr_rf) hq hcell (by decide) rfl (lx_x 53 rfl) (lx_x 54 rfl) (lx_x 55 rfl) (lx_x 1 rfl) (by decide +kernel) rfl (by decide +kernel) (fun v h9 hq9 => ?_) (by decide +kernel) (fun E h9 hq9 => hq9) (fun i E hE => ?_) g
  · obtain ⟨x, g9, rfl, k1, k2, k3⟩ := wq_i hq9
    refine ⟨_, lv_args 0 [.ref q, .int x0, .int x1, .ref o], k3, ?_⟩
    refine lr_adv kk_LwayAgain 1 (F2 := (9, [.long x.toInt64, .int (ki 0), .ref o], _, h9)) rfl ?_
    refine lr_sL (pc := 9) (n := 0) kk_LwayAgain rfl k1 k2 ?_
    refine lr_to (pc := 10) kk_LwayAgain 21 rfl rfl ?_
    exact lr_adv kk_LwayAgain 1 rfl lr_rf
  · match i, hE with
    | 0, hE =>
      cases hE
      exact ⟨[], [(0, 10, 17, 54)], (0, 10, 13, 41), 16, rfl, (fun z2 hz2 => nomatch hz2), ⟨by decide, by decide⟩, by decide, lx_x 29 rfl, am_c0 1 (by decide), fun q9 h9 => ⟨_, lr_adv kk_LwayAgain 2 rfl lr_rf⟩, by decide +kernel⟩
    | 1, hE =>
      cases hE
      exact ⟨[(0, 10, 13, 41)], [], (0, 10, 17, 54), 20, rfl, (fun z2 hz2 => by obtain rfl := List.mem_singleton.mp hz2; exact ⟨by decide, "java/lang/IndexOutOfBoundsException", lx_x 29 rfl, by decide⟩), ⟨by decide, by decide⟩, by decide, lx_x 40 rfl, am_c0 3 (by decide), fun q9 h9 => ⟨_, lr_adv kk_LwayAgain 2 rfl lr_rf⟩, by decide +kernel⟩
    | j + 2, hE => cases hE
theorem lw_first (hty : tys.map (fun q => q.2) = mm_tyl) (hl9 : l.stackTraces = false) (hs : ∀ (d y c k : Nat) (args : List Value) (h : mm_S) (Q : mm_Re → Prop), mm_Run X d y c k args h Q → mm_Met l D tys b0 (Am_ D b0) d y c k args h Q) {x0 x1 : Int32} (hq : q ∈ h.1) (hcell : h.2 q = .inr (5, fs)) (g : mm_Run X d 86 mc ms (.ref q :: [.int x0, .int x1]) h (WQ_ ["java/lang/IndexOutOfBoundsException", "java/util/NoSuchElementException"] o Q)) :
    vx_Met l yL_first (Cond.codeWith yL_first cL_first 5 (some .int) [(0, 10, 13, 41), (0, 10, 17, 54)] :: lx_T) (mm_rm (d + 1) mc ms) (va_Pc [.ref q, .int x0, .int x1, .ref o] (mm_B D tys b0 (Am_ D b0) h)) (mm_Qc D tys b0 (WP_ Q)) (mm_XC D tys b0 (WP_ Q)) mc ms (mm_A b0) := by
  refine lw_gen (n := 2) (As := [.int x0, .int x1]) (ls := lv_args 0 [.ref q, .int x0, .int x1, .ref o]) (a := 86) (idx := 71) (pc1 := 5) (L := 22) (ex := ["java/lang/IndexOutOfBoundsException", "java/util/NoSuchElementException"]) hty hl9 lx_sub hs rfl (Nat.le_of_ble_eq_true rfl) (lr_adv kk_Lfirst 5 rfl lr_rf) hq hcell (by decide) rfl (lx_x 56 rfl) (lx_x 57 rfl) (lx_x 58 rfl) (lx_x 1 rfl) (by decide +kernel) rfl (by decide +kernel) (fun v h9 hq9 => ?_) (by decide +kernel) (fun E h9 hq9 => hq9) (fun i E hE => ?_) g
  · obtain ⟨x, g9, rfl, k1, k2, k3⟩ := wq_i hq9
    refine ⟨_, lv_args 0 [.ref q, .int x0, .int x1, .ref o], k3, ?_⟩
    refine lr_adv kk_Lfirst 1 (F2 := (9, [.long x.toInt64, .int (ki 0), .ref o], _, h9)) rfl ?_
    refine lr_sL (pc := 9) (n := 0) kk_Lfirst rfl k1 k2 ?_
    refine lr_to (pc := 10) kk_Lfirst 21 rfl rfl ?_
    exact lr_adv kk_Lfirst 1 rfl lr_rf
  · match i, hE with
    | 0, hE =>
      cases hE
      exact ⟨[], [(0, 10, 17, 54)], (0, 10, 13, 41), 16, rfl, (fun z2 hz2 => nomatch hz2), ⟨by decide, by decide⟩, by decide, lx_x 29 rfl, am_c0 1 (by decide), fun q9 h9 => ⟨_, lr_adv kk_Lfirst 2 rfl lr_rf⟩, by decide +kernel⟩
    | 1, hE =>
      cases hE
      exact ⟨[(0, 10, 13, 41)], [], (0, 10, 17, 54), 20, rfl, (fun z2 hz2 => by obtain rfl := List.mem_singleton.mp hz2; exact ⟨by decide, "java/lang/IndexOutOfBoundsException", lx_x 29 rfl, by decide⟩), ⟨by decide, by decide⟩, by decide, lx_x 40 rfl, am_c0 3 (by decide), fun q9 h9 => ⟨_, lr_adv kk_Lfirst 2 rfl lr_rf⟩, by decide +kernel⟩
    | j + 2, hE => cases hE
theorem lw_reach (hty : tys.map (fun q => q.2) = mm_tyl) (hl9 : l.stackTraces = false) (hs : ∀ (d y c k : Nat) (args : List Value) (h : mm_S) (Q : mm_Re → Prop), mm_Run X d y c k args h Q → mm_Met l D tys b0 (Am_ D b0) d y c k args h Q) {x0 : Int32} (hq : q ∈ h.1) (hcell : h.2 q = .inr (5, fs)) (g : mm_Run X d 87 mc ms (.ref q :: [.int x0]) h (WQ_ ["java/lang/IndexOutOfBoundsException"] o Q)) :
    vx_Met l yL_reach (Cond.codeWith yL_reach cL_reach 4 (some .int) [(0, 9, 12, 41)] :: lx_T) (mm_rm (d + 1) mc ms) (va_Pc [.ref q, .int x0, .ref o] (mm_B D tys b0 (Am_ D b0) h)) (mm_Qc D tys b0 (WP_ Q)) (mm_XC D tys b0 (WP_ Q)) mc ms (mm_A b0) := by
  refine lw_gen (n := 1) (As := [.int x0]) (ls := lv_args 0 [.ref q, .int x0, .ref o]) (a := 87) (idx := 74) (pc1 := 4) (L := 16) (ex := ["java/lang/IndexOutOfBoundsException"]) hty hl9 lx_sub hs rfl (Nat.le_of_ble_eq_true rfl) (lr_adv kk_Lreach 4 rfl lr_rf) hq hcell (by decide) rfl (lx_x 59 rfl) (lx_x 60 rfl) (lx_x 61 rfl) (lx_x 1 rfl) (by decide +kernel) rfl (by decide +kernel) (fun v h9 hq9 => ?_) (by decide +kernel) (fun E h9 hq9 => hq9) (fun i E hE => ?_) g
  · obtain ⟨x, g9, rfl, k1, k2, k3⟩ := wq_i hq9
    refine ⟨_, lv_args 0 [.ref q, .int x0, .ref o], k3, ?_⟩
    refine lr_adv kk_Lreach 1 (F2 := (8, [.long x.toInt64, .int (ki 0), .ref o], _, h9)) rfl ?_
    refine lr_sL (pc := 8) (n := 0) kk_Lreach rfl k1 k2 ?_
    refine lr_to (pc := 9) kk_Lreach 15 rfl rfl ?_
    exact lr_adv kk_Lreach 1 rfl lr_rf
  · match i, hE with
    | 0, hE =>
      cases hE
      exact ⟨[], [], (0, 9, 12, 41), 14, rfl, (fun z2 hz2 => nomatch hz2), ⟨by decide, by decide⟩, by decide, lx_x 29 rfl, am_c0 1 (by decide), fun q9 h9 => ⟨_, lr_adv kk_Lreach 2 rfl lr_rf⟩, by decide +kernel⟩
    | j + 1, hE => cases hE
theorem lw_dustIn (hty : tys.map (fun q => q.2) = mm_tyl) (hl9 : l.stackTraces = false) (hs : ∀ (d y c k : Nat) (args : List Value) (h : mm_S) (Q : mm_Re → Prop), mm_Run X d y c k args h Q → mm_Met l D tys b0 (Am_ D b0) d y c k args h Q) {x0 x1 : Int32} (hq : q ∈ h.1) (hcell : h.2 q = .inr (5, fs)) (g : mm_Run X d 88 mc ms (.ref q :: [.int x0, .int x1]) h (WQ_ ["java/lang/IndexOutOfBoundsException", "java/lang/IllegalArgumentException"] o Q)) :
    vx_Met l yL_dustIn (Cond.codeWith yL_dustIn cL_dustIn 5 (some .int) [(0, 10, 13, 41), (0, 10, 17, 43)] :: lx_T) (mm_rm (d + 1) mc ms) (va_Pc [.ref q, .int x0, .int x1, .ref o] (mm_B D tys b0 (Am_ D b0) h)) (mm_Qc D tys b0 (WP_ Q)) (mm_XC D tys b0 (WP_ Q)) mc ms (mm_A b0) := by
  refine lw_gen (n := 2) (As := [.int x0, .int x1]) (ls := lv_args 0 [.ref q, .int x0, .int x1, .ref o]) (a := 88) (idx := 77) (pc1 := 5) (L := 22) (ex := ["java/lang/IndexOutOfBoundsException", "java/lang/IllegalArgumentException"]) hty hl9 lx_sub hs rfl (Nat.le_of_ble_eq_true rfl) (lr_adv kk_LdustIn 5 rfl lr_rf) hq hcell (by decide) rfl (lx_x 62 rfl) (lx_x 63 rfl) (lx_x 64 rfl) (lx_x 1 rfl) (by decide +kernel) rfl (by decide +kernel) (fun v h9 hq9 => ?_) (by decide +kernel) (fun E h9 hq9 => hq9) (fun i E hE => ?_) g
  · obtain ⟨x, g9, rfl, k1, k2, k3⟩ := wq_i hq9
    refine ⟨_, lv_args 0 [.ref q, .int x0, .int x1, .ref o], k3, ?_⟩
    refine lr_adv kk_LdustIn 1 (F2 := (9, [.long x.toInt64, .int (ki 0), .ref o], _, h9)) rfl ?_
    refine lr_sL (pc := 9) (n := 0) kk_LdustIn rfl k1 k2 ?_
    refine lr_to (pc := 10) kk_LdustIn 21 rfl rfl ?_
    exact lr_adv kk_LdustIn 1 rfl lr_rf
  · match i, hE with
    | 0, hE =>
      cases hE
      exact ⟨[], [(0, 10, 17, 43)], (0, 10, 13, 41), 16, rfl, (fun z2 hz2 => nomatch hz2), ⟨by decide, by decide⟩, by decide, lx_x 29 rfl, am_c0 1 (by decide), fun q9 h9 => ⟨_, lr_adv kk_LdustIn 2 rfl lr_rf⟩, by decide +kernel⟩
    | 1, hE =>
      cases hE
      exact ⟨[(0, 10, 13, 41)], [], (0, 10, 17, 43), 20, rfl, (fun z2 hz2 => by obtain rfl := List.mem_singleton.mp hz2; exact ⟨by decide, "java/lang/IndexOutOfBoundsException", lx_x 29 rfl, by decide⟩), ⟨by decide, by decide⟩, by decide, lx_x 30 rfl, am_c0 2 (by decide), fun q9 h9 => ⟨_, lr_adv kk_LdustIn 2 rfl lr_rf⟩, by decide +kernel⟩
    | j + 2, hE => cases hE
theorem lw_dustAgain (hty : tys.map (fun q => q.2) = mm_tyl) (hl9 : l.stackTraces = false) (hs : ∀ (d y c k : Nat) (args : List Value) (h : mm_S) (Q : mm_Re → Prop), mm_Run X d y c k args h Q → mm_Met l D tys b0 (Am_ D b0) d y c k args h Q) {x0 x1 : Int32} (hq : q ∈ h.1) (hcell : h.2 q = .inr (5, fs)) (g : mm_Run X d 89 mc ms (.ref q :: [.int x0, .int x1]) h (WQ_ ["java/lang/IndexOutOfBoundsException", "java/lang/IllegalArgumentException"] o Q)) :
    vx_Met l yL_dustAgain (Cond.codeWith yL_dustAgain cL_dustAgain 5 (some .int) [(0, 10, 13, 41), (0, 10, 17, 43)] :: lx_T) (mm_rm (d + 1) mc ms) (va_Pc [.ref q, .int x0, .int x1, .ref o] (mm_B D tys b0 (Am_ D b0) h)) (mm_Qc D tys b0 (WP_ Q)) (mm_XC D tys b0 (WP_ Q)) mc ms (mm_A b0) := by
  refine lw_gen (n := 2) (As := [.int x0, .int x1]) (ls := lv_args 0 [.ref q, .int x0, .int x1, .ref o]) (a := 89) (idx := 80) (pc1 := 5) (L := 22) (ex := ["java/lang/IndexOutOfBoundsException", "java/lang/IllegalArgumentException"]) hty hl9 lx_sub hs rfl (Nat.le_of_ble_eq_true rfl) (lr_adv kk_LdustAgain 5 rfl lr_rf) hq hcell (by decide) rfl (lx_x 65 rfl) (lx_x 66 rfl) (lx_x 67 rfl) (lx_x 1 rfl) (by decide +kernel) rfl (by decide +kernel) (fun v h9 hq9 => ?_) (by decide +kernel) (fun E h9 hq9 => hq9) (fun i E hE => ?_) g
  · obtain ⟨x, g9, rfl, k1, k2, k3⟩ := wq_i hq9
    refine ⟨_, lv_args 0 [.ref q, .int x0, .int x1, .ref o], k3, ?_⟩
    refine lr_adv kk_LdustAgain 1 (F2 := (9, [.long x.toInt64, .int (ki 0), .ref o], _, h9)) rfl ?_
    refine lr_sL (pc := 9) (n := 0) kk_LdustAgain rfl k1 k2 ?_
    refine lr_to (pc := 10) kk_LdustAgain 21 rfl rfl ?_
    exact lr_adv kk_LdustAgain 1 rfl lr_rf
  · match i, hE with
    | 0, hE =>
      cases hE
      exact ⟨[], [(0, 10, 17, 43)], (0, 10, 13, 41), 16, rfl, (fun z2 hz2 => nomatch hz2), ⟨by decide, by decide⟩, by decide, lx_x 29 rfl, am_c0 1 (by decide), fun q9 h9 => ⟨_, lr_adv kk_LdustAgain 2 rfl lr_rf⟩, by decide +kernel⟩
    | 1, hE =>
      cases hE
      exact ⟨[(0, 10, 13, 41)], [], (0, 10, 17, 43), 20, rfl, (fun z2 hz2 => by obtain rfl := List.mem_singleton.mp hz2; exact ⟨by decide, "java/lang/IndexOutOfBoundsException", lx_x 29 rfl, by decide⟩), ⟨by decide, by decide⟩, by decide, lx_x 30 rfl, am_c0 2 (by decide), fun q9 h9 => ⟨_, lr_adv kk_LdustAgain 2 rfl lr_rf⟩, by decide +kernel⟩
    | j + 2, hE => cases hE
theorem lw_rentsIn (hty : tys.map (fun q => q.2) = mm_tyl) (hl9 : l.stackTraces = false) (hs : ∀ (d y c k : Nat) (args : List Value) (h : mm_S) (Q : mm_Re → Prop), mm_Run X d y c k args h Q → mm_Met l D tys b0 (Am_ D b0) d y c k args h Q) {x0 : Int32} (hq : q ∈ h.1) (hcell : h.2 q = .inr (5, fs)) (g : mm_Run X d 90 mc ms (.ref q :: [.int x0]) h (WQ_ ["java/lang/IllegalArgumentException"] o Q)) :
    vx_Met l yL_rentsIn (Cond.codeWith yL_rentsIn cL_rentsIn 4 (some .int) [(0, 9, 12, 43)] :: lx_T) (mm_rm (d + 1) mc ms) (va_Pc [.ref q, .int x0, .ref o] (mm_B D tys b0 (Am_ D b0) h)) (mm_Qc D tys b0 (WP_ Q)) (mm_XC D tys b0 (WP_ Q)) mc ms (mm_A b0) := by
  refine lw_gen (n := 1) (As := [.int x0]) (ls := lv_args 0 [.ref q, .int x0, .ref o]) (a := 90) (idx := 83) (pc1 := 4) (L := 16) (ex := ["java/lang/IllegalArgumentException"]) hty hl9 lx_sub hs rfl (Nat.le_of_ble_eq_true rfl) (lr_adv kk_LrentsIn 4 rfl lr_rf) hq hcell (by decide) rfl (lx_x 68 rfl) (lx_x 69 rfl) (lx_x 70 rfl) (lx_x 1 rfl) (by decide +kernel) rfl (by decide +kernel) (fun v h9 hq9 => ?_) (by decide +kernel) (fun E h9 hq9 => hq9) (fun i E hE => ?_) g
  · obtain ⟨x, g9, rfl, k1, k2, k3⟩ := wq_i hq9
    refine ⟨_, lv_args 0 [.ref q, .int x0, .ref o], k3, ?_⟩
    refine lr_adv kk_LrentsIn 1 (F2 := (8, [.long x.toInt64, .int (ki 0), .ref o], _, h9)) rfl ?_
    refine lr_sL (pc := 8) (n := 0) kk_LrentsIn rfl k1 k2 ?_
    refine lr_to (pc := 9) kk_LrentsIn 15 rfl rfl ?_
    exact lr_adv kk_LrentsIn 1 rfl lr_rf
  · match i, hE with
    | 0, hE =>
      cases hE
      exact ⟨[], [], (0, 9, 12, 43), 14, rfl, (fun z2 hz2 => nomatch hz2), ⟨by decide, by decide⟩, by decide, lx_x 30 rfl, am_c0 2 (by decide), fun q9 h9 => ⟨_, lr_adv kk_LrentsIn 2 rfl lr_rf⟩, by decide +kernel⟩
    | j + 1, hE => cases hE
theorem lw_levyOf (hty : tys.map (fun q => q.2) = mm_tyl) (hl9 : l.stackTraces = false) (hs : ∀ (d y c k : Nat) (args : List Value) (h : mm_S) (Q : mm_Re → Prop), mm_Run X d y c k args h Q → mm_Met l D tys b0 (Am_ D b0) d y c k args h Q) {x0 x1 : Int32} (hq : q ∈ h.1) (hcell : h.2 q = .inr (5, fs)) (g : mm_Run X d 91 mc ms (.ref q :: [.int x0, .int x1]) h (WQ_ ["java/lang/IndexOutOfBoundsException"] o Q)) :
    vx_Met l yL_levyOf (Cond.codeWith yL_levyOf cL_levyOf 5 (some .int) [(0, 10, 13, 41)] :: lx_T) (mm_rm (d + 1) mc ms) (va_Pc [.ref q, .int x0, .int x1, .ref o] (mm_B D tys b0 (Am_ D b0) h)) (mm_Qc D tys b0 (WP_ Q)) (mm_XC D tys b0 (WP_ Q)) mc ms (mm_A b0) := by
  refine lw_gen (n := 2) (As := [.int x0, .int x1]) (ls := lv_args 0 [.ref q, .int x0, .int x1, .ref o]) (a := 91) (idx := 86) (pc1 := 5) (L := 18) (ex := ["java/lang/IndexOutOfBoundsException"]) hty hl9 lx_sub hs rfl (Nat.le_of_ble_eq_true rfl) (lr_adv kk_LlevyOf 5 rfl lr_rf) hq hcell (by decide) rfl (lx_x 71 rfl) (lx_x 72 rfl) (lx_x 73 rfl) (lx_x 1 rfl) (by decide +kernel) rfl (by decide +kernel) (fun v h9 hq9 => ?_) (by decide +kernel) (fun E h9 hq9 => hq9) (fun i E hE => ?_) g
  · obtain ⟨x, g9, rfl, k1, k2, k3⟩ := wq_i hq9
    refine ⟨_, lv_args 0 [.ref q, .int x0, .int x1, .ref o], k3, ?_⟩
    refine lr_adv kk_LlevyOf 1 (F2 := (9, [.long x.toInt64, .int (ki 0), .ref o], _, h9)) rfl ?_
    refine lr_sL (pc := 9) (n := 0) kk_LlevyOf rfl k1 k2 ?_
    refine lr_to (pc := 10) kk_LlevyOf 17 rfl rfl ?_
    exact lr_adv kk_LlevyOf 1 rfl lr_rf
  · match i, hE with
    | 0, hE =>
      cases hE
      exact ⟨[], [], (0, 10, 13, 41), 16, rfl, (fun z2 hz2 => nomatch hz2), ⟨by decide, by decide⟩, by decide, lx_x 29 rfl, am_c0 1 (by decide), fun q9 h9 => ⟨_, lr_adv kk_LlevyOf 2 rfl lr_rf⟩, by decide +kernel⟩
    | j + 1, hE => cases hE
theorem lw_bestLevy (hty : tys.map (fun q => q.2) = mm_tyl) (hl9 : l.stackTraces = false) (hs : ∀ (d y c k : Nat) (args : List Value) (h : mm_S) (Q : mm_Re → Prop), mm_Run X d y c k args h Q → mm_Met l D tys b0 (Am_ D b0) d y c k args h Q) {x0 : Int32} (hq : q ∈ h.1) (hcell : h.2 q = .inr (5, fs)) (g : mm_Run X d 92 mc ms (.ref q :: [.int x0]) h (WQ_ ["java/lang/IndexOutOfBoundsException", "java/util/NoSuchElementException"] o Q)) :
    vx_Met l yL_bestLevy (Cond.codeWith yL_bestLevy cL_bestLevy 4 (some .int) [(0, 9, 12, 41), (0, 9, 15, 54)] :: lx_T) (mm_rm (d + 1) mc ms) (va_Pc [.ref q, .int x0, .ref o] (mm_B D tys b0 (Am_ D b0) h)) (mm_Qc D tys b0 (WP_ Q)) (mm_XC D tys b0 (WP_ Q)) mc ms (mm_A b0) := by
  refine lw_gen (n := 1) (As := [.int x0]) (ls := lv_args 0 [.ref q, .int x0, .ref o]) (a := 92) (idx := 89) (pc1 := 4) (L := 19) (ex := ["java/lang/IndexOutOfBoundsException", "java/util/NoSuchElementException"]) hty hl9 lx_sub hs rfl (Nat.le_of_ble_eq_true rfl) (lr_adv kk_LbestLevy 4 rfl lr_rf) hq hcell (by decide) rfl (lx_x 74 rfl) (lx_x 75 rfl) (lx_x 76 rfl) (lx_x 1 rfl) (by decide +kernel) rfl (by decide +kernel) (fun v h9 hq9 => ?_) (by decide +kernel) (fun E h9 hq9 => hq9) (fun i E hE => ?_) g
  · obtain ⟨x, g9, rfl, k1, k2, k3⟩ := wq_i hq9
    refine ⟨_, lv_args 0 [.ref q, .int x0, .ref o], k3, ?_⟩
    refine lr_adv kk_LbestLevy 1 (F2 := (8, [.long x.toInt64, .int (ki 0), .ref o], _, h9)) rfl ?_
    refine lr_sL (pc := 8) (n := 0) kk_LbestLevy rfl k1 k2 ?_
    refine lr_to (pc := 9) kk_LbestLevy 18 rfl rfl ?_
    exact lr_adv kk_LbestLevy 1 rfl lr_rf
  · match i, hE with
    | 0, hE =>
      cases hE
      exact ⟨[], [(0, 9, 15, 54)], (0, 9, 12, 41), 14, rfl, (fun z2 hz2 => nomatch hz2), ⟨by decide, by decide⟩, by decide, lx_x 29 rfl, am_c0 1 (by decide), fun q9 h9 => ⟨_, lr_adv kk_LbestLevy 2 rfl lr_rf⟩, by decide +kernel⟩
    | 1, hE =>
      cases hE
      exact ⟨[(0, 9, 12, 41)], [], (0, 9, 15, 54), 17, rfl, (fun z2 hz2 => by obtain rfl := List.mem_singleton.mp hz2; exact ⟨by decide, "java/lang/IndexOutOfBoundsException", lx_x 29 rfl, by decide⟩), ⟨by decide, by decide⟩, by decide, lx_x 40 rfl, am_c0 3 (by decide), fun q9 h9 => ⟨_, lr_adv kk_LbestLevy 2 rfl lr_rf⟩, by decide +kernel⟩
    | j + 2, hE => cases hE
theorem lw_canTake (hty : tys.map (fun q => q.2) = mm_tyl) (hl9 : l.stackTraces = false) (hs : ∀ (d y c k : Nat) (args : List Value) (h : mm_S) (Q : mm_Re → Prop), mm_Run X d y c k args h Q → mm_Met l D tys b0 (Am_ D b0) d y c k args h Q) {x0 : Int32} (hq : q ∈ h.1) (hcell : h.2 q = .inr (5, fs)) (g : mm_Run X d 93 mc ms (.ref q :: [.int x0]) h (WB_ ["java/lang/IndexOutOfBoundsException"] o Q)) :
    vx_Met l yL_canTake (Cond.codeWith yL_canTake cL_canTake 4 (some .int) [(0, 16, 19, 41)] :: lx_T) (mm_rm (d + 1) mc ms) (va_Pc [.ref q, .int x0, .ref o] (mm_B D tys b0 (Am_ D b0) h)) (mm_Qc D tys b0 (WP_ Q)) (mm_XC D tys b0 (WP_ Q)) mc ms (mm_A b0) := by
  refine lw_gen (n := 1) (As := [.int x0]) (ls := lv_args 0 [.ref q, .int x0, .ref o]) (a := 93) (idx := 92) (pc1 := 4) (L := 23) (ex := ["java/lang/IndexOutOfBoundsException"]) hty hl9 lx_sub hs rfl (Nat.le_of_ble_eq_true rfl) (lr_adv kk_LcanTake 4 rfl lr_rf) hq hcell (by decide) rfl (lx_x 77 rfl) (lx_x 78 rfl) (lx_x 79 rfl) (lx_x 1 rfl) (by decide +kernel) rfl (by decide +kernel) (fun v h9 hq9 => ?_) (by decide +kernel) (fun E h9 hq9 => hq9) (fun i E hE => ?_) g
  · obtain ⟨x, g9, rfl, k1, k2, k3⟩ := wb_i hq9
    refine ⟨_, lv_args 0 [.ref q, .int x0, .ref o], k3, ?_⟩
    by_cases e0 : x = 0
    · rw [if_pos e0]
      refine lr_zt (pc := 7) kk_LcanTake 14 rfl rfl e0 ?_
      refine lr_adv kk_LcanTake 1 (F2 := (15, [.long (kl 0), .int (ki 0), .ref o], _, h9)) rfl ?_
      refine lr_sL (pc := 15) (n := 0) kk_LcanTake rfl k1 k2 ?_
      refine lr_to (pc := 16) kk_LcanTake 22 rfl rfl ?_
      exact lr_adv kk_LcanTake 1 rfl lr_rf
    · rw [if_neg e0]
      refine lr_zf (pc := 7) kk_LcanTake rfl (by decide) e0 ?_
      refine lr_adv kk_LcanTake 1 (F2 := (11, [.long (kl 1), .int (ki 0), .ref o], _, h9)) rfl ?_
      refine lr_to (pc := 11) kk_LcanTake 15 rfl rfl ?_
      refine lr_sL (pc := 15) (n := 0) kk_LcanTake rfl k1 k2 ?_
      refine lr_to (pc := 16) kk_LcanTake 22 rfl rfl ?_
      exact lr_adv kk_LcanTake 1 rfl lr_rf
  · match i, hE with
    | 0, hE =>
      cases hE
      exact ⟨[], [], (0, 16, 19, 41), 21, rfl, (fun z2 hz2 => nomatch hz2), ⟨by decide, by decide⟩, by decide, lx_x 29 rfl, am_c0 1 (by decide), fun q9 h9 => ⟨_, lr_adv kk_LcanTake 2 rfl lr_rf⟩, by decide +kernel⟩
    | j + 1, hE => cases hE
theorem lw_ranked (hty : tys.map (fun q => q.2) = mm_tyl) (hl9 : l.stackTraces = false) (hs : ∀ (d y c k : Nat) (args : List Value) (h : mm_S) (Q : mm_Re → Prop), mm_Run X d y c k args h Q → mm_Met l D tys b0 (Am_ D b0) d y c k args h Q) {x0 x1 : Int32} (hq : q ∈ h.1) (hcell : h.2 q = .inr (5, fs)) (g : mm_Run X d 96 mc ms (.ref q :: [.int x0, .int x1]) h (WQ_ ["java/lang/IllegalArgumentException", "java/util/NoSuchElementException"] o Q)) :
    vx_Met l yL_ranked (Cond.codeWith yL_ranked cL_ranked 5 (some .int) [(0, 10, 13, 43), (0, 10, 17, 54)] :: lx_T) (mm_rm (d + 1) mc ms) (va_Pc [.ref q, .int x0, .int x1, .ref o] (mm_B D tys b0 (Am_ D b0) h)) (mm_Qc D tys b0 (WP_ Q)) (mm_XC D tys b0 (WP_ Q)) mc ms (mm_A b0) := by
  refine lw_gen (n := 2) (As := [.int x0, .int x1]) (ls := lv_args 0 [.ref q, .int x0, .int x1, .ref o]) (a := 96) (idx := 96) (pc1 := 5) (L := 22) (ex := ["java/lang/IllegalArgumentException", "java/util/NoSuchElementException"]) hty hl9 lx_sub hs rfl (Nat.le_of_ble_eq_true rfl) (lr_adv kk_Lranked 5 rfl lr_rf) hq hcell (by decide) rfl (lx_x 80 rfl) (lx_x 81 rfl) (lx_x 82 rfl) (lx_x 1 rfl) (by decide +kernel) rfl (by decide +kernel) (fun v h9 hq9 => ?_) (by decide +kernel) (fun E h9 hq9 => hq9) (fun i E hE => ?_) g
  · obtain ⟨x, g9, rfl, k1, k2, k3⟩ := wq_i hq9
    refine ⟨_, lv_args 0 [.ref q, .int x0, .int x1, .ref o], k3, ?_⟩
    refine lr_adv kk_Lranked 1 (F2 := (9, [.long x.toInt64, .int (ki 0), .ref o], _, h9)) rfl ?_
    refine lr_sL (pc := 9) (n := 0) kk_Lranked rfl k1 k2 ?_
    refine lr_to (pc := 10) kk_Lranked 21 rfl rfl ?_
    exact lr_adv kk_Lranked 1 rfl lr_rf
  · match i, hE with
    | 0, hE =>
      cases hE
      exact ⟨[], [(0, 10, 17, 54)], (0, 10, 13, 43), 16, rfl, (fun z2 hz2 => nomatch hz2), ⟨by decide, by decide⟩, by decide, lx_x 30 rfl, am_c0 2 (by decide), fun q9 h9 => ⟨_, lr_adv kk_Lranked 2 rfl lr_rf⟩, by decide +kernel⟩
    | 1, hE =>
      cases hE
      exact ⟨[(0, 10, 13, 43)], [], (0, 10, 17, 54), 20, rfl, (fun z2 hz2 => by obtain rfl := List.mem_singleton.mp hz2; exact ⟨by decide, "java/lang/IllegalArgumentException", lx_x 30 rfl, by decide⟩), ⟨by decide, by decide⟩, by decide, lx_x 40 rfl, am_c0 3 (by decide), fun q9 h9 => ⟨_, lr_adv kk_Lranked 2 rfl lr_rf⟩, by decide +kernel⟩
    | j + 2, hE => cases hE
theorem lw_append (hty : tys.map (fun q => q.2) = mm_tyl) (hl9 : l.stackTraces = false) (hs : ∀ (d y c k : Nat) (args : List Value) (h : mm_S) (Q : mm_Re → Prop), mm_Run X d y c k args h Q → mm_Met l D tys b0 (Am_ D b0) d y c k args h Q) {x0 : Int32} (hq : q ∈ h.1) (hcell : h.2 q = .inr (5, fs)) (g : mm_Run X d 98 mc ms (.ref q :: [.int x0]) h (WQ_ ["java/lang/IllegalArgumentException", "java/lang/IllegalStateException"] o Q)) :
    vx_Met l yL_append (Cond.codeWith yL_append cL_append 4 (some .int) [(0, 9, 12, 43), (0, 9, 15, 103)] :: lx_T) (mm_rm (d + 1) mc ms) (va_Pc [.ref q, .int x0, .ref o] (mm_B D tys b0 (Am_ D b0) h)) (mm_Qc D tys b0 (WP_ Q)) (mm_XC D tys b0 (WP_ Q)) mc ms (mm_A b0) := by
  refine lw_gen (n := 1) (As := [.int x0]) (ls := lv_args 0 [.ref q, .int x0, .ref o]) (a := 98) (idx := 99) (pc1 := 4) (L := 19) (ex := ["java/lang/IllegalArgumentException", "java/lang/IllegalStateException"]) hty hl9 lx_sub hs rfl (Nat.le_of_ble_eq_true rfl) (lr_adv kk_Lappend 4 rfl lr_rf) hq hcell (by decide) rfl (lx_x 83 rfl) (lx_x 84 rfl) (lx_x 85 rfl) (lx_x 1 rfl) (by decide +kernel) rfl (by decide +kernel) (fun v h9 hq9 => ?_) (by decide +kernel) (fun E h9 hq9 => hq9) (fun i E hE => ?_) g
  · obtain ⟨x, g9, rfl, k1, k2, k3⟩ := wq_i hq9
    refine ⟨_, lv_args 0 [.ref q, .int x0, .ref o], k3, ?_⟩
    refine lr_adv kk_Lappend 1 (F2 := (8, [.long x.toInt64, .int (ki 0), .ref o], _, h9)) rfl ?_
    refine lr_sL (pc := 8) (n := 0) kk_Lappend rfl k1 k2 ?_
    refine lr_to (pc := 9) kk_Lappend 18 rfl rfl ?_
    exact lr_adv kk_Lappend 1 rfl lr_rf
  · match i, hE with
    | 0, hE =>
      cases hE
      exact ⟨[], [(0, 9, 15, 103)], (0, 9, 12, 43), 14, rfl, (fun z2 hz2 => nomatch hz2), ⟨by decide, by decide⟩, by decide, lx_x 30 rfl, am_c0 2 (by decide), fun q9 h9 => ⟨_, lr_adv kk_Lappend 2 rfl lr_rf⟩, by decide +kernel⟩
    | 1, hE =>
      cases hE
      exact ⟨[(0, 9, 12, 43)], [], (0, 9, 15, 103), 17, rfl, (fun z2 hz2 => by obtain rfl := List.mem_singleton.mp hz2; exact ⟨by decide, "java/lang/IllegalArgumentException", lx_x 30 rfl, by decide⟩), ⟨by decide, by decide⟩, by decide, lx_x 86 rfl, am_c0 4 (by decide), fun q9 h9 => ⟨_, lr_adv kk_Lappend 2 rfl lr_rf⟩, by decide +kernel⟩
    | j + 2, hE => cases hE
theorem lw_run (hty : tys.map (fun q => q.2) = mm_tyl) (hl9 : l.stackTraces = false) (hs : ∀ (d y c k : Nat) (args : List Value) (h : mm_S) (Q : mm_Re → Prop), mm_Run X d y c k args h Q → mm_Met l D tys b0 (Am_ D b0) d y c k args h Q) (hq : q ∈ h.1) (hcell : h.2 q = .inr (5, fs)) (g : mm_Run X d 99 mc ms (.ref q :: []) h (WQ_ ["java/lang/IllegalArgumentException", "java/lang/UnsupportedOperationException"] o Q)) :
    vx_Met l yL_run (Cond.codeWith yL_run cL_run 3 (some .int) [(0, 8, 11, 43), (0, 8, 14, 13)] :: lx_T) (mm_rm (d + 1) mc ms) (va_Pc [.ref q, .ref o] (mm_B D tys b0 (Am_ D b0) h)) (mm_Qc D tys b0 (WP_ Q)) (mm_XC D tys b0 (WP_ Q)) mc ms (mm_A b0) := by
  refine lw_gen (n := 0) (As := []) (ls := lv_args 0 [.ref q, .ref o]) (a := 99) (idx := 105) (pc1 := 3) (L := 18) (ex := ["java/lang/IllegalArgumentException", "java/lang/UnsupportedOperationException"]) hty hl9 lx_sub hs rfl (Nat.le_of_ble_eq_true rfl) (lr_adv kk_Lrun 3 rfl lr_rf) hq hcell (by decide) rfl (lx_x 87 rfl) (lx_x 88 rfl) (lx_x 89 rfl) (lx_x 1 rfl) (by decide +kernel) rfl (by decide +kernel) (fun v h9 hq9 => ?_) (by decide +kernel) (fun E h9 hq9 => hq9) (fun i E hE => ?_) g
  · obtain ⟨x, g9, rfl, k1, k2, k3⟩ := wq_i hq9
    refine ⟨_, lv_args 0 [.ref q, .ref o], k3, ?_⟩
    refine lr_adv kk_Lrun 1 (F2 := (7, [.long x.toInt64, .int (ki 0), .ref o], _, h9)) rfl ?_
    refine lr_sL (pc := 7) (n := 0) kk_Lrun rfl k1 k2 ?_
    refine lr_to (pc := 8) kk_Lrun 17 rfl rfl ?_
    exact lr_adv kk_Lrun 1 rfl lr_rf
  · match i, hE with
    | 0, hE =>
      cases hE
      exact ⟨[], [(0, 8, 14, 13)], (0, 8, 11, 43), 13, rfl, (fun z2 hz2 => nomatch hz2), ⟨by decide, by decide⟩, by decide, lx_x 30 rfl, am_c0 2 (by decide), fun q9 h9 => ⟨_, lr_adv kk_Lrun 2 rfl lr_rf⟩, by decide +kernel⟩
    | 1, hE =>
      cases hE
      exact ⟨[(0, 8, 11, 43)], [], (0, 8, 14, 13), 16, rfl, (fun z2 hz2 => by obtain rfl := List.mem_singleton.mp hz2; exact ⟨by decide, "java/lang/IllegalArgumentException", lx_x 30 rfl, by decide⟩), ⟨by decide, by decide⟩, by decide, lx_x 4 rfl, am_c0 0 (by decide), fun q9 h9 => ⟨_, lr_adv kk_Lrun 2 rfl lr_rf⟩, by decide +kernel⟩
    | j + 2, hE => cases hE
theorem lw_reason (hty : tys.map (fun q => q.2) = mm_tyl) (hl9 : l.stackTraces = false) (hs : ∀ (d y c k : Nat) (args : List Value) (h : mm_S) (Q : mm_Re → Prop), mm_Run X d y c k args h Q → mm_Met l D tys b0 (Am_ D b0) d y c k args h Q) {x0 x1 : Int32} (hq : q ∈ h.1) (hcell : h.2 q = .inr (5, fs)) (g : mm_Run X d 101 mc ms (.ref q :: [.int x0, .int x1]) h (WQ_ ["java/lang/IllegalArgumentException", "java/util/NoSuchElementException"] o Q)) :
    vx_Met l yL_reason (Cond.codeWith yL_reason cL_reason 5 (some .int) [(0, 10, 13, 43), (0, 10, 17, 54)] :: lx_T) (mm_rm (d + 1) mc ms) (va_Pc [.ref q, .int x0, .int x1, .ref o] (mm_B D tys b0 (Am_ D b0) h)) (mm_Qc D tys b0 (WP_ Q)) (mm_XC D tys b0 (WP_ Q)) mc ms (mm_A b0) := by
  refine lw_gen (n := 2) (As := [.int x0, .int x1]) (ls := lv_args 0 [.ref q, .int x0, .int x1, .ref o]) (a := 101) (idx := 109) (pc1 := 5) (L := 22) (ex := ["java/lang/IllegalArgumentException", "java/util/NoSuchElementException"]) hty hl9 lx_sub hs rfl (Nat.le_of_ble_eq_true rfl) (lr_adv kk_Lreason 5 rfl lr_rf) hq hcell (by decide) rfl (lx_x 90 rfl) (lx_x 91 rfl) (lx_x 92 rfl) (lx_x 1 rfl) (by decide +kernel) rfl (by decide +kernel) (fun v h9 hq9 => ?_) (by decide +kernel) (fun E h9 hq9 => hq9) (fun i E hE => ?_) g
  · obtain ⟨x, g9, rfl, k1, k2, k3⟩ := wq_i hq9
    refine ⟨_, lv_args 0 [.ref q, .int x0, .int x1, .ref o], k3, ?_⟩
    refine lr_adv kk_Lreason 1 (F2 := (9, [.long x.toInt64, .int (ki 0), .ref o], _, h9)) rfl ?_
    refine lr_sL (pc := 9) (n := 0) kk_Lreason rfl k1 k2 ?_
    refine lr_to (pc := 10) kk_Lreason 21 rfl rfl ?_
    exact lr_adv kk_Lreason 1 rfl lr_rf
  · match i, hE with
    | 0, hE =>
      cases hE
      exact ⟨[], [(0, 10, 17, 54)], (0, 10, 13, 43), 16, rfl, (fun z2 hz2 => nomatch hz2), ⟨by decide, by decide⟩, by decide, lx_x 30 rfl, am_c0 2 (by decide), fun q9 h9 => ⟨_, lr_adv kk_Lreason 2 rfl lr_rf⟩, by decide +kernel⟩
    | 1, hE =>
      cases hE
      exact ⟨[(0, 10, 13, 43)], [], (0, 10, 17, 54), 20, rfl, (fun z2 hz2 => by obtain rfl := List.mem_singleton.mp hz2; exact ⟨by decide, "java/lang/IllegalArgumentException", lx_x 30 rfl, by decide⟩), ⟨by decide, by decide⟩, by decide, lx_x 40 rfl, am_c0 3 (by decide), fun q9 h9 => ⟨_, lr_adv kk_Lreason 2 rfl lr_rf⟩, by decide +kernel⟩
    | j + 2, hE => cases hE
theorem lw_tellGiant (hty : tys.map (fun q => q.2) = mm_tyl) (hl9 : l.stackTraces = false) (hs : ∀ (d y c k : Nat) (args : List Value) (h : mm_S) (Q : mm_Re → Prop), mm_Run X d y c k args h Q → mm_Met l D tys b0 (Am_ D b0) d y c k args h Q) {x0 : Int32} (hq : q ∈ h.1) (hcell : h.2 q = .inr (5, fs)) (g : mm_Run X d 102 mc ms (.ref q :: [.int x0]) h (WQ_ ["java/lang/IndexOutOfBoundsException"] o Q)) :
    vx_Met l yL_tellGiant (Cond.codeWith yL_tellGiant cL_tellGiant 4 (some .int) [(0, 9, 12, 41)] :: lx_T) (mm_rm (d + 1) mc ms) (va_Pc [.ref q, .int x0, .ref o] (mm_B D tys b0 (Am_ D b0) h)) (mm_Qc D tys b0 (WP_ Q)) (mm_XC D tys b0 (WP_ Q)) mc ms (mm_A b0) := by
  refine lw_gen (n := 1) (As := [.int x0]) (ls := lv_args 0 [.ref q, .int x0, .ref o]) (a := 102) (idx := 113) (pc1 := 4) (L := 16) (ex := ["java/lang/IndexOutOfBoundsException"]) hty hl9 lx_sub hs rfl (Nat.le_of_ble_eq_true rfl) (lr_adv kk_LtellGiant 4 rfl lr_rf) hq hcell (by decide) rfl (lx_x 93 rfl) (lx_x 94 rfl) (lx_x 95 rfl) (lx_x 1 rfl) (by decide +kernel) rfl (by decide +kernel) (fun v h9 hq9 => ?_) (by decide +kernel) (fun E h9 hq9 => hq9) (fun i E hE => ?_) g
  · obtain ⟨x, g9, rfl, k1, k2, k3⟩ := wq_i hq9
    refine ⟨_, lv_args 0 [.ref q, .int x0, .ref o], k3, ?_⟩
    refine lr_adv kk_LtellGiant 1 (F2 := (8, [.long x.toInt64, .int (ki 0), .ref o], _, h9)) rfl ?_
    refine lr_sL (pc := 8) (n := 0) kk_LtellGiant rfl k1 k2 ?_
    refine lr_to (pc := 9) kk_LtellGiant 15 rfl rfl ?_
    exact lr_adv kk_LtellGiant 1 rfl lr_rf
  · match i, hE with
    | 0, hE =>
      cases hE
      exact ⟨[], [], (0, 9, 12, 41), 14, rfl, (fun z2 hz2 => nomatch hz2), ⟨by decide, by decide⟩, by decide, lx_x 29 rfl, am_c0 1 (by decide), fun q9 h9 => ⟨_, lr_adv kk_LtellGiant 2 rfl lr_rf⟩, by decide +kernel⟩
    | j + 1, hE => cases hE
theorem lw_tellStair (hty : tys.map (fun q => q.2) = mm_tyl) (hl9 : l.stackTraces = false) (hs : ∀ (d y c k : Nat) (args : List Value) (h : mm_S) (Q : mm_Re → Prop), mm_Run X d y c k args h Q → mm_Met l D tys b0 (Am_ D b0) d y c k args h Q) {x0 : Int32} (hq : q ∈ h.1) (hcell : h.2 q = .inr (5, fs)) (g : mm_Run X d 103 mc ms (.ref q :: [.int x0]) h (WQ_ ["java/lang/IndexOutOfBoundsException"] o Q)) :
    vx_Met l yL_tellStair (Cond.codeWith yL_tellStair cL_tellStair 4 (some .int) [(0, 9, 12, 41)] :: lx_T) (mm_rm (d + 1) mc ms) (va_Pc [.ref q, .int x0, .ref o] (mm_B D tys b0 (Am_ D b0) h)) (mm_Qc D tys b0 (WP_ Q)) (mm_XC D tys b0 (WP_ Q)) mc ms (mm_A b0) := by
  refine lw_gen (n := 1) (As := [.int x0]) (ls := lv_args 0 [.ref q, .int x0, .ref o]) (a := 103) (idx := 116) (pc1 := 4) (L := 16) (ex := ["java/lang/IndexOutOfBoundsException"]) hty hl9 lx_sub hs rfl (Nat.le_of_ble_eq_true rfl) (lr_adv kk_LtellStair 4 rfl lr_rf) hq hcell (by decide) rfl (lx_x 96 rfl) (lx_x 97 rfl) (lx_x 98 rfl) (lx_x 1 rfl) (by decide +kernel) rfl (by decide +kernel) (fun v h9 hq9 => ?_) (by decide +kernel) (fun E h9 hq9 => hq9) (fun i E hE => ?_) g
  · obtain ⟨x, g9, rfl, k1, k2, k3⟩ := wq_i hq9
    refine ⟨_, lv_args 0 [.ref q, .int x0, .ref o], k3, ?_⟩
    refine lr_adv kk_LtellStair 1 (F2 := (8, [.long x.toInt64, .int (ki 0), .ref o], _, h9)) rfl ?_
    refine lr_sL (pc := 8) (n := 0) kk_LtellStair rfl k1 k2 ?_
    refine lr_to (pc := 9) kk_LtellStair 15 rfl rfl ?_
    exact lr_adv kk_LtellStair 1 rfl lr_rf
  · match i, hE with
    | 0, hE =>
      cases hE
      exact ⟨[], [], (0, 9, 12, 41), 14, rfl, (fun z2 hz2 => nomatch hz2), ⟨by decide, by decide⟩, by decide, lx_x 29 rfl, am_c0 1 (by decide), fun q9 h9 => ⟨_, lr_adv kk_LtellStair 2 rfl lr_rf⟩, by decide +kernel⟩
    | j + 1, hE => cases hE
theorem lw_character (hty : tys.map (fun q => q.2) = mm_tyl) (hl9 : l.stackTraces = false) (hs : ∀ (d y c k : Nat) (args : List Value) (h : mm_S) (Q : mm_Re → Prop), mm_Run X d y c k args h Q → mm_Met l D tys b0 (Am_ D b0) d y c k args h Q) {x0 : Int32} (hq : q ∈ h.1) (hcell : h.2 q = .inr (5, fs)) (g : mm_Run X d 105 mc ms (.ref q :: [.int x0]) h (WQ_ ["java/lang/IndexOutOfBoundsException"] o Q)) :
    vx_Met l yL_character (Cond.codeWith yL_character cL_character 4 (some .int) [(0, 9, 12, 41)] :: lx_T) (mm_rm (d + 1) mc ms) (va_Pc [.ref q, .int x0, .ref o] (mm_B D tys b0 (Am_ D b0) h)) (mm_Qc D tys b0 (WP_ Q)) (mm_XC D tys b0 (WP_ Q)) mc ms (mm_A b0) := by
  refine lw_gen (n := 1) (As := [.int x0]) (ls := lv_args 0 [.ref q, .int x0, .ref o]) (a := 105) (idx := 119) (pc1 := 4) (L := 16) (ex := ["java/lang/IndexOutOfBoundsException"]) hty hl9 lx_sub hs rfl (Nat.le_of_ble_eq_true rfl) (lr_adv kk_Lcharacter 4 rfl lr_rf) hq hcell (by decide) rfl (lx_x 99 rfl) (lx_x 100 rfl) (lx_x 101 rfl) (lx_x 1 rfl) (by decide +kernel) rfl (by decide +kernel) (fun v h9 hq9 => ?_) (by decide +kernel) (fun E h9 hq9 => hq9) (fun i E hE => ?_) g
  · obtain ⟨x, g9, rfl, k1, k2, k3⟩ := wq_i hq9
    refine ⟨_, lv_args 0 [.ref q, .int x0, .ref o], k3, ?_⟩
    refine lr_adv kk_Lcharacter 1 (F2 := (8, [.long x.toInt64, .int (ki 0), .ref o], _, h9)) rfl ?_
    refine lr_sL (pc := 8) (n := 0) kk_Lcharacter rfl k1 k2 ?_
    refine lr_to (pc := 9) kk_Lcharacter 15 rfl rfl ?_
    exact lr_adv kk_Lcharacter 1 rfl lr_rf
  · match i, hE with
    | 0, hE =>
      cases hE
      exact ⟨[], [], (0, 9, 12, 41), 14, rfl, (fun z2 hz2 => nomatch hz2), ⟨by decide, by decide⟩, by decide, lx_x 29 rfl, am_c0 1 (by decide), fun q9 h9 => ⟨_, lr_adv kk_Lcharacter 2 rfl lr_rf⟩, by decide +kernel⟩
    | j + 1, hE => cases hE
theorem lw_account (hty : tys.map (fun q => q.2) = mm_tyl) (hl9 : l.stackTraces = false) (hs : ∀ (d y c k : Nat) (args : List Value) (h : mm_S) (Q : mm_Re → Prop), mm_Run X d y c k args h Q → mm_Met l D tys b0 (Am_ D b0) d y c k args h Q) {x0 : Int32} (hq : q ∈ h.1) (hcell : h.2 q = .inr (5, fs)) (g : mm_Run X d 106 mc ms (.ref q :: [.int x0]) h (WQ_ ["java/lang/IllegalArgumentException"] o Q)) :
    vx_Met l yL_account (Cond.codeWith yL_account cL_account 4 (some .int) [(0, 9, 12, 43)] :: lx_T) (mm_rm (d + 1) mc ms) (va_Pc [.ref q, .int x0, .ref o] (mm_B D tys b0 (Am_ D b0) h)) (mm_Qc D tys b0 (WP_ Q)) (mm_XC D tys b0 (WP_ Q)) mc ms (mm_A b0) := by
  refine lw_gen (n := 1) (As := [.int x0]) (ls := lv_args 0 [.ref q, .int x0, .ref o]) (a := 106) (idx := 123) (pc1 := 4) (L := 16) (ex := ["java/lang/IllegalArgumentException"]) hty hl9 lx_sub hs rfl (Nat.le_of_ble_eq_true rfl) (lr_adv kk_Laccount 4 rfl lr_rf) hq hcell (by decide) rfl (lx_x 102 rfl) (lx_x 103 rfl) (lx_x 104 rfl) (lx_x 1 rfl) (by decide +kernel) rfl (by decide +kernel) (fun v h9 hq9 => ?_) (by decide +kernel) (fun E h9 hq9 => hq9) (fun i E hE => ?_) g
  · obtain ⟨x, g9, rfl, k1, k2, k3⟩ := wq_i hq9
    refine ⟨_, lv_args 0 [.ref q, .int x0, .ref o], k3, ?_⟩
    refine lr_adv kk_Laccount 1 (F2 := (8, [.long x.toInt64, .int (ki 0), .ref o], _, h9)) rfl ?_
    refine lr_sL (pc := 8) (n := 0) kk_Laccount rfl k1 k2 ?_
    refine lr_to (pc := 9) kk_Laccount 15 rfl rfl ?_
    exact lr_adv kk_Laccount 1 rfl lr_rf
  · match i, hE with
    | 0, hE =>
      cases hE
      exact ⟨[], [], (0, 9, 12, 43), 14, rfl, (fun z2 hz2 => nomatch hz2), ⟨by decide, by decide⟩, by decide, lx_x 30 rfl, am_c0 2 (by decide), fun q9 h9 => ⟨_, lr_adv kk_Laccount 2 rfl lr_rf⟩, by decide +kernel⟩
    | j + 1, hE => cases hE
theorem lw_meanSteps (hty : tys.map (fun q => q.2) = mm_tyl) (hl9 : l.stackTraces = false) (hs : ∀ (d y c k : Nat) (args : List Value) (h : mm_S) (Q : mm_Re → Prop), mm_Run X d y c k args h Q → mm_Met l D tys b0 (Am_ D b0) d y c k args h Q) (hq : q ∈ h.1) (hcell : h.2 q = .inr (5, fs)) (g : mm_Run X d 107 mc ms (.ref q :: []) h (WD2_ ["java/lang/ArithmeticException"] o Q)) :
    vx_Met l yL_meanSteps (Cond.codeWith yL_meanSteps cL_meanSteps 3 (some .int) [(0, 7, 10, 130)] :: lx_T) (mm_rm (d + 1) mc ms) (va_Pc [.ref q, .ref o] (mm_B D tys b0 (Am_ D b0) h)) (mm_Qc D tys b0 (WP_ Q)) (mm_XC D tys b0 (WP_ Q)) mc ms (mm_A b0) := by
  refine lw_gen (n := 0) (As := []) (ls := lv_args 0 [.ref q, .ref o]) (a := 107) (idx := 126) (pc1 := 3) (L := 14) (ex := ["java/lang/ArithmeticException"]) hty hl9 lx_sub hs rfl (Nat.le_of_ble_eq_true rfl) (lr_adv kk_LmeanSteps 3 rfl lr_rf) hq hcell (by decide) rfl (lx_x 105 rfl) (lx_x 106 rfl) (lx_x 107 rfl) (lx_x 1 rfl) (by decide +kernel) rfl (by decide +kernel) (fun v h9 hq9 => ?_) (by decide +kernel) (fun E h9 hq9 => hq9) (fun i E hE => ?_) g
  · obtain ⟨x, g9, rfl, k1, k2, k3⟩ := wd_i hq9
    refine ⟨_, lv_args 0 [.ref q, .ref o], k3, ?_⟩
    refine lr_sD (pc := 6) (n := 0) kk_LmeanSteps rfl k1 k2 ?_
    refine lr_to (pc := 7) kk_LmeanSteps 13 rfl rfl ?_
    exact lr_adv kk_LmeanSteps 1 rfl lr_rf
  · match i, hE with
    | 0, hE =>
      cases hE
      exact ⟨[], [], (0, 7, 10, 130), 12, rfl, (fun z2 hz2 => nomatch hz2), ⟨by decide, by decide⟩, by decide, lx_x 108 rfl, am_c0 5 (by decide), fun q9 h9 => ⟨_, lr_adv kk_LmeanSteps 2 rfl lr_rf⟩, by decide +kernel⟩
    | j + 1, hE => cases hE
theorem lw_leasedShare (hty : tys.map (fun q => q.2) = mm_tyl) (hl9 : l.stackTraces = false) (hs : ∀ (d y c k : Nat) (args : List Value) (h : mm_S) (Q : mm_Re → Prop), mm_Run X d y c k args h Q → mm_Met l D tys b0 (Am_ D b0) d y c k args h Q) (hq : q ∈ h.1) (hcell : h.2 q = .inr (5, fs)) (g : mm_Run X d 108 mc ms (.ref q :: []) h (WF_ ["java/lang/ArithmeticException"] o Q)) :
    vx_Met l yL_leasedShare (Cond.codeWith yL_leasedShare cL_leasedShare 3 (some .int) [(0, 8, 11, 130)] :: lx_T) (mm_rm (d + 1) mc ms) (va_Pc [.ref q, .ref o] (mm_B D tys b0 (Am_ D b0) h)) (mm_Qc D tys b0 (WP_ Q)) (mm_XC D tys b0 (WP_ Q)) mc ms (mm_A b0) := by
  refine lw_gen (n := 0) (As := []) (ls := lv_args 0 [.ref q, .ref o]) (a := 108) (idx := 132) (pc1 := 3) (L := 15) (ex := ["java/lang/ArithmeticException"]) hty hl9 lx_sub hs rfl (Nat.le_of_ble_eq_true rfl) (lr_adv kk_LleasedShare 3 rfl lr_rf) hq hcell (by decide) rfl (lx_x 109 rfl) (lx_x 110 rfl) (lx_x 111 rfl) (lx_x 1 rfl) (by decide +kernel) rfl (by decide +kernel) (fun v h9 hq9 => ?_) (by decide +kernel) (fun E h9 hq9 => hq9) (fun i E hE => ?_) g
  · obtain ⟨x, g9, rfl, k0, k1, k2, k3⟩ := wf_i hq9
    refine ⟨_, lv_args 0 [.ref q, .ref o], k3, ?_⟩
    refine lr_p (pc := 6) kk_LleasedShare (P := vf_n64 (FP.f2d x)) (F2 := (7, [.double (FP.f2d x), .int (ki 0), .ref o], _, h9)) rfl rfl k0 ?_
    refine lr_sD (pc := 7) (n := 0) kk_LleasedShare rfl k1 k2 ?_
    refine lr_to (pc := 8) kk_LleasedShare 14 rfl rfl ?_
    exact lr_adv kk_LleasedShare 1 rfl lr_rf
  · match i, hE with
    | 0, hE =>
      cases hE
      exact ⟨[], [], (0, 8, 11, 130), 13, rfl, (fun z2 hz2 => nomatch hz2), ⟨by decide, by decide⟩, by decide, lx_x 108 rfl, am_c0 5 (by decide), fun q9 h9 => ⟨_, lr_adv kk_LleasedShare 2 rfl lr_rf⟩, by decide +kernel⟩
    | j + 1, hE => cases hE
theorem lw_undo (hty : tys.map (fun q => q.2) = mm_tyl) (hl9 : l.stackTraces = false) (hs : ∀ (d y c k : Nat) (args : List Value) (h : mm_S) (Q : mm_Re → Prop), mm_Run X d y c k args h Q → mm_Met l D tys b0 (Am_ D b0) d y c k args h Q) (hq : q ∈ h.1) (hcell : h.2 q = .inr (5, fs)) (g : mm_Run X d 109 mc ms (.ref q :: []) h (WQ_ ["java/lang/IllegalStateException"] o Q)) :
    vx_Met l yL_undo (Cond.codeWith yL_undo cL_undo 3 (some .int) [(0, 8, 11, 103)] :: lx_T) (mm_rm (d + 1) mc ms) (va_Pc [.ref q, .ref o] (mm_B D tys b0 (Am_ D b0) h)) (mm_Qc D tys b0 (WP_ Q)) (mm_XC D tys b0 (WP_ Q)) mc ms (mm_A b0) := by
  refine lw_gen (n := 0) (As := []) (ls := lv_args 0 [.ref q, .ref o]) (a := 109) (idx := 136) (pc1 := 3) (L := 15) (ex := ["java/lang/IllegalStateException"]) hty hl9 lx_sub hs rfl (Nat.le_of_ble_eq_true rfl) (lr_adv kk_Lundo 3 rfl lr_rf) hq hcell (by decide) rfl (lx_x 112 rfl) (lx_x 113 rfl) (lx_x 114 rfl) (lx_x 1 rfl) (by decide +kernel) rfl (by decide +kernel) (fun v h9 hq9 => ?_) (by decide +kernel) (fun E h9 hq9 => hq9) (fun i E hE => ?_) g
  · obtain ⟨x, g9, rfl, k1, k2, k3⟩ := wq_i hq9
    refine ⟨_, lv_args 0 [.ref q, .ref o], k3, ?_⟩
    refine lr_adv kk_Lundo 1 (F2 := (7, [.long x.toInt64, .int (ki 0), .ref o], _, h9)) rfl ?_
    refine lr_sL (pc := 7) (n := 0) kk_Lundo rfl k1 k2 ?_
    refine lr_to (pc := 8) kk_Lundo 14 rfl rfl ?_
    exact lr_adv kk_Lundo 1 rfl lr_rf
  · match i, hE with
    | 0, hE =>
      cases hE
      exact ⟨[], [], (0, 8, 11, 103), 13, rfl, (fun z2 hz2 => nomatch hz2), ⟨by decide, by decide⟩, by decide, lx_x 86 rfl, am_c0 4 (by decide), fun q9 h9 => ⟨_, lr_adv kk_Lundo 2 rfl lr_rf⟩, by decide +kernel⟩
    | j + 1, hE => cases hE
theorem lw_restore (hty : tys.map (fun q => q.2) = mm_tyl) (hl9 : l.stackTraces = false) (hs : ∀ (d y c k : Nat) (args : List Value) (h : mm_S) (Q : mm_Re → Prop), mm_Run X d y c k args h Q → mm_Met l D tys b0 (Am_ D b0) d y c k args h Q) (hq : q ∈ h.1) (hcell : h.2 q = .inr (5, fs)) (g : mm_Run X d 111 mc ms (.ref q :: []) h (WQ_ ["java/lang/IllegalStateException"] o Q)) :
    vx_Met l yL_restore (Cond.codeWith yL_restore cL_restore 3 (some .int) [(0, 8, 11, 103)] :: lx_T) (mm_rm (d + 1) mc ms) (va_Pc [.ref q, .ref o] (mm_B D tys b0 (Am_ D b0) h)) (mm_Qc D tys b0 (WP_ Q)) (mm_XC D tys b0 (WP_ Q)) mc ms (mm_A b0) := by
  refine lw_gen (n := 0) (As := []) (ls := lv_args 0 [.ref q, .ref o]) (a := 111) (idx := 139) (pc1 := 3) (L := 15) (ex := ["java/lang/IllegalStateException"]) hty hl9 lx_sub hs rfl (Nat.le_of_ble_eq_true rfl) (lr_adv kk_Lrestore 3 rfl lr_rf) hq hcell (by decide) rfl (lx_x 115 rfl) (lx_x 116 rfl) (lx_x 117 rfl) (lx_x 1 rfl) (by decide +kernel) rfl (by decide +kernel) (fun v h9 hq9 => ?_) (by decide +kernel) (fun E h9 hq9 => hq9) (fun i E hE => ?_) g
  · obtain ⟨x, g9, rfl, k1, k2, k3⟩ := wq_i hq9
    refine ⟨_, lv_args 0 [.ref q, .ref o], k3, ?_⟩
    refine lr_adv kk_Lrestore 1 (F2 := (7, [.long x.toInt64, .int (ki 0), .ref o], _, h9)) rfl ?_
    refine lr_sL (pc := 7) (n := 0) kk_Lrestore rfl k1 k2 ?_
    refine lr_to (pc := 8) kk_Lrestore 14 rfl rfl ?_
    exact lr_adv kk_Lrestore 1 rfl lr_rf
  · match i, hE with
    | 0, hE =>
      cases hE
      exact ⟨[], [], (0, 8, 11, 103), 13, rfl, (fun z2 hz2 => nomatch hz2), ⟨by decide, by decide⟩, by decide, lx_x 86 rfl, am_c0 4 (by decide), fun q9 h9 => ⟨_, lr_adv kk_Lrestore 2 rfl lr_rf⟩, by decide +kernel⟩
    | j + 1, hE => cases hE
end SM

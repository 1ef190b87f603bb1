/-! the law makes its things -/
section NW
variable {C : LC_} {b L : Nat} {xs : Nat → Int32} {cells slots : Nat} {ls : mm_L} {rest st : List Value} {h : mm_S} {pc : Nat}
theorem ll_new (X : LX_ C b L xs) {a idx : Nat} (ha : a < 8) (h1 : Cond.classLink "GiantStairsLaw" idx (mm_C a).1 ∈ lx_T) (h2 : (Cond.instantiable (mm_C a).1 (mm_C a).2.2).before #[Value.ref b] C.2.2.2.1 = true) (h3 : Cond.initialized (mm_C a).1 ∈ lx_T) (hf : cells + 1 ≤ 603072 ∧ slots + (mm_C a).2.2 ≤ 7215210) (hd : decode code pc = .ok (.new idx, 3))
    (g : ∀ q, q ∉ h.1 → LK_ C b (cells + 1) (slots + (mm_C a).2.2) (pc + 3, .ref q :: st, ls, (h.1 ++ [q], va_up h.2 q (.inr (a, mm_dfl a))))) : LK_ C b cells slots (pc, st, ls, h) := by
  obtain ⟨p, l, e, s, m, below, meth, cd, D, tys, b0, Qe⟩ := C
  obtain ⟨⟨hx, hb, hml, hts, hnw, hown, hK, hlk, hb0, hamb⟩, hty, hl9, hX, hbl, hbA⟩ := X
  intro la H locs hl hr hS
  refine va_new (C := (mm_C a).1) (T := (mm_C a).2.1) (N := (mm_C a).2.2) (Ts := mm_W) hx hb (fun w hw => hts w (lx_sub w hw)) (mm_yin ha) (mm_fty a) (mm_ftyok ha) hown (hts _ h1) h2 (hts _ h3) hK hr.1 hr.2.1 hS (fun q hq => Nat.le_trans hb0 hq) (mm_cl_at ha) (mm_dflok ha) hf.1 hf.2 hd (fun q H1 hP1 hD1 hS1 => ?_)
  obtain ⟨hqn, es⟩ := mm_ws_new (c := .inr (a, mm_dfl a)) hD1
  have hfr := (mm_fresh (fun i hi => ((am_AL (l := l) (tys := tys) (D := D) (b0 := b0) hl9).2.2.2.1 s s.heap hamb i hi).1) hr.2.2 hD1)
  exact g q hqn la H1 locs hl (by unfold mm_rep; exact ⟨es ▸ hP1, es ▸ hD1, mm_mk_new hr.2.2 hfr (fun z => absurd (congrArg Prod.fst (Sum.inr.inj z)) (by show ¬ a = 9; omega))⟩) hS1
theorem ll_narr (X : LX_ C b L xs) {t : ArrayType} {ti : Nat} {f : Nat → vp_A} {n : Int32} {N : Nat} {ty : FieldType} (e1 : newarray.typeOf t = ty) (e2 : ti < 9) (e3 : mm_tyl.getD ti .int = ty) (e4 : Cond.arrayClass ty ∈ mm_xw) (h1 : ¬ n < 0) (hN : n.toNatClampNeg = N) (e5 : ∀ cA : ClassId, vp_cell cA (f N) = arrV cA N (fun _ => defaultValue ty)) (h6 : N * componentBytes ty ≤ 536870912) (e7 : ∀ (s : State) (cA : ClassId) , va_RA s cA ty → s.vm.findClass ("[" ++ ty.toString) = some cA)
    (hf : cells + 1 ≤ 603072 ∧ slots + N ≤ 7215210) (hd : decode code pc = .ok (.newarray t, 2))
    (g : ∀ q, q ∉ h.1 → LK_ C b (cells + 1) (slots + N) (pc + 2, .ref q :: rest, ls, (h.1 ++ [q], va_up h.2 q (.inl (ti, f N))))) : LK_ C b cells slots (pc, .int n :: rest, ls, h) := by
  obtain ⟨p, l, e, s, m, below, meth, cd, D, tys, b0, Qe⟩ := C
  obtain ⟨⟨hx, hb, hml, hts, hnw, hown, hK, hlk, hb0, hamb⟩, hty, hl9, hX, hbl, hbA⟩ := X
  intro la H locs hl hr hS
  have hta := mm_ty_at hty e2
  rw [e3] at hta
  refine va_newa hx hb (by rw [e1]; exact hts _ (lx_sub _ (mm_xin e4))) e1 hK hr.1 hr.2.1 hS (fun q hq => Nat.le_trans hb0 hq) e5 h1 hN h6 hf.1 hf.2 hd (fun q cA H1 hK1 hP1 hD1 hS1 => ?_)
  have z1 := e7 s _ (hK1.2 tys.length (cA, ty) (by simp)).2
  have z2 := e7 s _ (hK.2 ti _ hta).2
  have e8 : cA = (tys.getD ti (0, .int)).1 := Option.some.inj (z1.symm.trans z2)
  subst e8
  obtain ⟨hqn, es⟩ := mm_ws_new (c := .inl (ti, f N)) hD1
  have hfr := (mm_fresh (fun i hi => ((am_AL (l := l) (tys := tys) (D := D) (b0 := b0) hl9).2.2.2.1 s s.heap hamb i hi).1) hr.2.2 hD1)
  exact g q hqn la H1 locs hl (by unfold mm_rep; exact ⟨es ▸ hP1, es ▸ hD1, mm_mk_new hr.2.2 hfr (fun z => by cases z)⟩) hS1
theorem ll_init (X : LX_ C b L xs) {a d mc ms idx q : Nat} {Q : mm_S → Prop} (g : mm_Run (mm_Xc (SS_ C.2.2.2.2.2.2.2.2.1)) d a mc ms [.ref q] h (fun r => ∃ h2, r = (.inl none, h2) ∧ Q h2)) (ha : a < 266) (h1 : Cond.methodLink "GiantStairsLaw" idx (mm_m a).2.1 ∈ lx_T) (h2 : Cond.instanceMethod (mm_m a).2.1 ∈ lx_T) (h3 : Cond.initialized (mm_m a).2.1.cls ∈ lx_T)
    (hp : (parseMethodDescriptor (mm_m a).2.1.desc).map (fun d => d.parameters.length) = some 0) (hn1 : (mm_m a).2.1.name = "<init>") (hn2 : (mm_m a).2.2.2.2 = none) (hd : d ≤ 100) (hf : cells + mc ≤ 603072 ∧ slots + ms ≤ 7215210) (hdg : decode code pc = .ok (.invokespecial idx, 3)) (hw : mm_wd rest ≤ 8)
    (kk : ∀ h2 : mm_S, Q h2 → LK_ C b (cells + mc) (slots + ms) (pc + 3, rest, ls, h2)) : LK_ C b cells slots (pc, .ref q :: rest, ls, h) := by
  obtain ⟨p, l, e, s, m, below, meth, cd, D, tys, b0, Qe⟩ := C
  obtain ⟨Z, hty, hl9, hX, hbl, hbA⟩ := X
  intro la H locs hl hr hS
  have hA := am_AL (l := l) (D := D) (tys := tys) (b0 := b0) hl9
  obtain ⟨hx, hb, hml, hts, hnw, hown, hK, hlk, hb0, hamb⟩ := id Z
  obtain ⟨hpl, how, hmh, hvh, hmx⟩ := mm_mvs ha
  have hM := LX_sound l D tys b0 hty hl9 _ _ _ _ _ _ _ g
  unfold mm_Met mm_wsY at hM
  rw [hn2] at hM
  have hG : GoodIn lx_T (Cond.code (mm_m a).2.1 (mm_m a).2.2.1 (mm_m a).2.2.2.1 none :: mm_W) := by
    have h9 := mm_wsY_good ha
    unfold mm_wsY at h9
    rw [hn2] at h9
    exact fun w hw => ⟨lx_sub w (h9 w hw).1, (h9 w hw).2⟩
  have hm := mm_room d 0 0 mc ms _ hmx
  have hR : (mm_rm d mc ms).frames + 1 ≤ room_1.frames ∧ 8 + ((mm_m a).2.2.2.1 + 11) + (mm_rm d mc ms).locals ≤ room_1.locals := ⟨Nat.le_trans hm.1 (show d + 1 + 9 ≤ 2048 by omega), Nat.le_trans hm.2 (show 64 * (d + 1) + 256 ≤ 94400 by omega)⟩
  refine lx_called (nL := 9) (vx_runI ⟨hx, hb, hml, hown, hts⟩ hM ⟨callB_of 0 hts hG rfl rfl rfl (hts _ h3) (hts _ h1) ⟨hmh, hvh, hp⟩ hR, hn1, hts _ h2⟩ ⟨mm_blind hA _ _, mm_pre hA hb0 hamb hK hnw hr hS [.ref q]⟩ rfl rfl hl.1 rfl (lv_room hw) hdg hf) hl hS (fun v h9 hq9 => ?_) (fun E h9 ce q9 H1 locs1 hq9 _ _ _ _ _ => ?_)
  · obtain ⟨h3, e1, e2⟩ := hq9
    cases e1
    exact kk h9 e2
  · obtain ⟨h3, e1, e2⟩ := hq9
    cases e1
end NW

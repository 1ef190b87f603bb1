theorem mm_dflok {a : Nat} (h : a < 8) : ∀ j, j < (mm_C a).2.2 → defaultValue (mm_fty a j) = vp_V (mm_dfl a) j := by
  match a, h with
  | 0, _ => decide +kernel
  | 1, _ => decide +kernel
  | 2, _ => decide +kernel
  | 3, _ => decide +kernel
  | 4, _ => decide +kernel
  | 5, _ => decide +kernel
  | 6, _ => decide +kernel
  | 7, _ => decide +kernel
theorem mm_ws_new {A : Nat → Prop} {tys : List (ClassId × FieldType)} {h : mm_S} {q : Nat} {c : mm_Ce} (hD : va_D A (mm_ws tys h ++ [(q, mm_cv tys c)])) : q ∉ h.1 ∧ mm_ws tys h ++ [(q, mm_cv tys c)] = mm_ws tys (h.1 ++ [q], va_up h.2 q c) := by
  have hq : q ∉ h.1 := va_pl_fresh2 (X := []) (by simpa [mm_ws] using hD)
  refine ⟨hq, ?_⟩
  unfold mm_ws
  rw [va_pl_push hq]
  refine va_pl_congr fun a => ?_
  simp only [va_up]
  split <;> rfl
theorem mm_fresh {D : va_G} {b0 : Nat} {tys : List (ClassId × FieldType)} {h : mm_S} {q : Nat} {e : va_E} (h1 : ∀ i : Nat, i < 9 → D.1 (100 + i) < b0) (hm : mm_mk D h) (hD : va_D (mm_A b0) (mm_ws tys h ++ [(q, e)])) : h.2 q ≠ .inr (9, []) := by
  intro e9
  obtain ⟨i, hi, rfl⟩ := hm.1 q e9
  have h2 := h1 i hi
  have h3 : mm_A b0 (D.1 (100 + i)) := hD.2 (mm_ws tys h).length (D.1 (100 + i), e) (by simp)
  exact absurd h2 (Nat.not_lt.mpr h3)
theorem mm_xin {w : Cond} (h : w ∈ mm_xw) : w ∈ mm_W := List.mem_append_right _ (List.mem_append_right _ (List.mem_append_left _ h))
section MMT
variable {p : Program} {l : Launch} {e : Env} {R : Room} {s : State} {m : MethodId} {args : Array Value} {below : List Frame} {meth : Method} {cd : Code} {H : Heap} {locs : List Loc}
variable {cc : ByteArray} {nL o y d c k : Nat} {ini : Bool} {D : va_G} {tys : List (ClassId × FieldType)} {b0 : Nat} {Amb : State → Heap → Prop} {X : mm_Cl} {Q : mm_Re → Prop}
theorem mm_lkS {i a b : Nat} (hk : mm_lk o nL ini (.invokestatic i) a b = true) (h : b ≠ 999) : mm_look (mm_lnk o) i = some (b / 16, a, b) := by
  simp only [mm_lk, Bool.or_eq_true, Bool.and_eq_true, decide_eq_true_eq, beq_iff_eq] at hk
  rcases hk with e | e
  · exact absurd e h
  · exact e.2
theorem mm_lkV {i a b : Nat} (hk : mm_lk o nL ini (.invokevirtual i) a b = true) (h : b ≠ 999) : mm_look (mm_lnk o) i = some (b / 16, a, b) := by
  simp only [mm_lk, Bool.or_eq_true, Bool.and_eq_true, decide_eq_true_eq, beq_iff_eq] at hk
  rcases hk with e | e
  · exact absurd e h
  · exact e.2
theorem mm_lkI {i a b : Nat} (hk : mm_lk o nL ini (.invokespecial i) a b = true) (h : b ≠ 999) (h8 : b ≠ 128) : mm_look (mm_lnk o) i = some (b / 16, a, b) := by
  simp only [mm_lk, Bool.or_eq_true, Bool.and_eq_true, decide_eq_true_eq, beq_iff_eq] at hk
  rcases hk with (e | e) | e
  · exact absurd e h
  · exact absurd e.1 h8
  · exact e.2
theorem mm_doS (Z : mm_Z p l R s m args meth cd cc nL o ini y d c k D tys b0 Amb X) {ins : Instr} {a b pc c2 k2 : Nat} {st : List Value} {ls : mm_L} {h : mm_S} (hd : decode cc pc = .ok (ins, mm_len ins b)) (hk : mm_lk o nL ini ins a b = true) (ht : mm_tk o cc pc ins a b = true)
    (g : mm_do (mm_Run X d) y Q (mm_KK p l e R s m args below meth cd c k Q nL D tys b0) ins a b pc st ls h c2 k2) : mm_KK p l e R s m args below meth cd c k Q nL D tys b0 (pc, st, ls, h) c2 k2 := by
  obtain ⟨CX, hRe, hret, hlocks, hout, hb0, hamb, hA, IH⟩ := id Z
  obtain ⟨hx, hb, hml, hts, hnw, hown, hini, hK, hty⟩ := id CX
  have hRf : 9 ≤ R.frames ∧ 256 ≤ R.locals ∧ R.cells = c ∧ R.slots = k := by
    rw [hRe]
    exact ⟨by show 9 ≤ d + 1 + 9; omega, by show 256 ≤ 64 * (d + 1) + 256; omega, rfl, rfl⟩
  obtain ⟨hR1, hR2, hR3, hR4⟩ := hRf
  unfold mm_do at g
  split at g
  · next i =>
    split at g
    · next eb =>
      subst eb
      split at g
      · intro hc hk2 la H locs hl hr hS
        have w := mm_rowB hts (mm_lkS hk (by decide))
        refine va_mmin hx hb (hml.trans hl.1.symm) hown (w _ List.mem_cons_self) (w _ (List.mem_cons_of_mem _ List.mem_cons_self)) (w _ (List.mem_cons_of_mem _ (List.mem_cons_of_mem _ List.mem_cons_self))) (w _ (List.mem_cons_of_mem _ (List.mem_cons_of_mem _ (List.mem_cons_of_mem _ List.mem_cons_self)))) (by omega) ?_ (by omega) (by omega) hd (g.2 hc hk2 la H locs hl hr hS)
        have := g.1
        unfold mm_wd at this
        omega
      · exact g.elim
    split at g
    · next eb =>
      subst eb
      split at g
      · intro hc hk2 la H locs hl hr hS
        have w := mm_rowB hts (mm_lkS hk (by decide))
        refine va_mmax hx hb (hml.trans hl.1.symm) hown (w _ List.mem_cons_self) (w _ (List.mem_cons_of_mem _ List.mem_cons_self)) (w _ (List.mem_cons_of_mem _ (List.mem_cons_of_mem _ List.mem_cons_self))) (w _ (List.mem_cons_of_mem _ (List.mem_cons_of_mem _ (List.mem_cons_of_mem _ List.mem_cons_self)))) (by omega) ?_ (by omega) (by omega) hd (g.2 hc hk2 la H locs hl hr hS)
        have := g.1
        unfold mm_wd at this
        omega
      · exact g.elim
    split at g
    · next eb =>
      subst eb
      split at g
      · next n dp q1 sp q0 r =>
        split at g
        · next t0 n0 f t1 n1 g1 e0 e1 =>
          obtain ⟨hq0, hq1, rfl, h04, h5, h6, h7, h8, h9, h10, h11, h12⟩ := g
          intro hc hk2 la H locs hl hr hS
          have w := mm_rowB hts (mm_lkS hk (by decide))
          obtain ⟨k0, hk0⟩ := mm_ws_get (tys := tys) hq0
          obtain ⟨k1, hk1⟩ := mm_ws_get (tys := tys) hq1
          have hk1b := hk1
          rw [e0] at hk0
          rw [e1] at hk1b
          have hta := mm_ty_at hty (t := t0) (by omega)
          refine va_copyi hx hb (hml.trans hl.1.symm) hown (w _ List.mem_cons_self) (w _ (List.mem_cons_of_mem _ List.mem_cons_self)) (w _ (List.mem_cons_of_mem _ (List.mem_cons_of_mem _ List.mem_cons_self))) (w _ (List.mem_cons_of_mem _ (List.mem_cons_of_mem _ (List.mem_cons_of_mem _ List.mem_cons_self)))) hK hr.1 hr.2.1 hS k0 k1 t0 t0 hk0 hk1b hta hta (by rcases h04 with rfl | rfl <;> rfl) h5 h6 h7 h8 h9 h10 (by omega) ?_ hd (fun H2 locs2 hP2 hD2 hS2 => ?_)
          · have : nativeFrameWords "java/lang/System" "arraycopy" 5 = 7 := by decide
            unfold mm_wd at h11
            omega
          · have es := mm_ws_set (c := .inl (t0, n1, .inl (va_cpy f g1 sp.toNatClampNeg dp.toNatClampNeg n.toNatClampNeg))) hr.2.1 hq1 hk1
            exact h12 hc hk2 la H2 locs2 hl (by unfold mm_rep; exact ⟨es ▸ hP2, es ▸ hD2, mm_mk_put hr.2.2 hq1 (fun z => by cases z)⟩) hS2
        · exact g.elim
      · exact g.elim
    obtain ⟨hb16, hn, g⟩ := g
    have hlk := mm_lkS hk (by omega)
    rcases hb16 with e9 | e9 <;> rw [e9] at hlk
    · exact mm_cS Z hd hlk hn g
    · exact mm_cSN Z hd hlk hn g
  · next i =>
    obtain ⟨hn, g⟩ := g
    split at g
    · next q rest hdr =>
      split at g
      · next ci fs hcell =>
        obtain ⟨hkind, g⟩ := g
        rcases hkind with ⟨hq, hci, hkind⟩ | ⟨ha9, e9, rfl, rfl⟩
        · rcases hkind with ⟨e9 | e9, hcls⟩ | ⟨e9, rfl⟩ <;> have hlk := mm_lkV hk (by omega) <;> rw [e9] at hlk
          · exact mm_cV Z hd hlk hn hdr g hq hci hcell hcls
          · exact mm_cVN Z hd hlk hn hdr g hq hci hcell hcls
          · exact mm_cU Z hd hlk hn hdr g hq hcell
        · have hlk := mm_lkV hk (by omega)
          rw [e9] at hlk
          exact mm_cVS Z hd hlk hn hdr g hcell (by rcases ha9 with rfl | rfl <;> rfl)
      · exact g.elim
    · exact g.elim
  · next i =>
    split at g
    · next eb =>
      subst eb
      split at g
      · intro hc hk2 la H locs hl hr hS
        have hlk : mm_look (mm_lnk o) i = some (8, 0, 0) := by
          simp only [mm_lk, Bool.or_eq_true, Bool.and_eq_true, decide_eq_true_eq, beq_iff_eq] at hk
          rcases hk with (e | e) | e
          · exact absurd e (by decide)
          · exact e.2
          · exact absurd e.1 (by decide)
        have w := mm_rowB hts hlk
        refine W.objInit hx hb hown (w _ List.mem_cons_self) (w _ (List.mem_cons_of_mem _ List.mem_cons_self)) (hts _ (mm_xin List.mem_cons_self)) rfl (hl.1.trans hml.symm) rfl hd (by omega) ?_ (g.2 hc hk2 la H locs hl hr hS)
        have := g.1
        unfold mm_wd at this
        show 2 * 0 + _ + 12 ≤ _
        omega
      · exact g.elim
    next e8 =>
    split at g
    · next e14 =>
      obtain ⟨hn, g⟩ := g
      have hlk := mm_lkI hk (by omega) e8
      rw [e14] at hlk
      split at g
      · next q rest hdr =>
        split at g
        · next ci fs hcell => exact mm_cSU Z hd hlk hn hdr g.2.2 g.1 g.2.1 hcell
        · exact g.elim
      · exact g.elim
    obtain ⟨hb16, hn, g⟩ := g
    have hlk := mm_lkI hk (by omega) e8
    split at g
    · next q rest hdr =>
      rcases hb16 with e9 | e9 <;> rw [e9] at hlk
      · exact mm_cI Z hd hlk hn hdr g
      · exact mm_cIN Z hd hlk hn hdr g
    · exact g.elim
  · next i =>
    split at g
    · next n rest =>
      obtain ⟨h1, h2, h3, h4, h5, g⟩ := g
      intro hc hk2 la H locs hl hr hS
      simp only [mm_lk, Bool.and_eq_true, decide_eq_true_eq] at hk
      have w := mm_rowB hts hk.1
      obtain ⟨ao0, ao2, ao3, -⟩ := hA.2.2.1 s s.heap hamb
      have hao : va_AO (mm_C a).1 s := by rcases h1 with rfl | rfl | rfl <;> assumption
      have hati : mm_ati a < 9 ∧ mm_tyl.getD (mm_ati a) .int = .object (mm_C a).1 := by rcases h1 with rfl | rfl | rfl <;> exact ⟨by decide, rfl⟩
      have hta := mm_ty_at hty hati.1
      rw [hati.2] at hta
      refine va_newq (C := (mm_C a).1) hx hb hown (w _ List.mem_cons_self) hao hK hr.1 hr.2.1 hS (fun q hq => Nat.le_trans hb0 hq) h2 rfl (by omega) (by omega) (by omega) hd (fun q cA H1 hK1 hP1 hD1 hS1 => ?_)
      have e1 := (hK1.2 tys.length (cA, .object (mm_C a).1) (by simp)).2
      have e2 := (hK.2 (mm_ati a) _ hta).2
      have e3 : cA = (tys.getD (mm_ati a) (0, .int)).1 := by
        obtain ⟨_, _, _, _, _, z1⟩ := e1
        obtain ⟨_, _, _, _, _, z2⟩ := e2
        exact Option.some.inj (z1.symm.trans z2)
      subst e3
      obtain ⟨hqn, es⟩ := mm_ws_new (c := .inl (mm_ati a, n.toNatClampNeg, .inr (.inr (.inr (.inr (fun _ => none)))))) hD1
      have hfr := (mm_fresh (fun i hi => (hA.2.2.2.1 s s.heap hamb i hi).1) hr.2.2 hD1)
      have g2 := g q hqn hfr (by omega) (by omega) la H1 locs hl (by unfold mm_rep; exact ⟨es ▸ hP1, es ▸ hD1, mm_mk_new hr.2.2 hfr (fun z => by cases z)⟩) hS1
      exact W.cs (by omega) (by omega) g2
    · exact g.elim
  · next i =>
    split at g
    · next eb =>
      subst eb
      obtain ⟨h1, h2, g⟩ := g
      intro hc hk2 la H locs hl hr hS
      simp only [mm_lk, Bool.or_eq_true, Bool.and_eq_true, decide_eq_true_eq, bne_self_eq_false, Bool.false_eq_true, false_or] at hk
      have w := mm_rowB hts hk.1
      refine va_new (C := (mm_C a).1) (T := (mm_C a).2.1) (N := (mm_C a).2.2) hx hb hts (mm_yin hk.2) (mm_fty a) (mm_ftyok hk.2) hown (w _ List.mem_cons_self) (w _ (List.mem_cons_of_mem _ List.mem_cons_self)) (w _ (List.mem_cons_of_mem _ (List.mem_cons_of_mem _ List.mem_cons_self))) hK hr.1 hr.2.1 hS (fun q hq => Nat.le_trans hb0 hq) (mm_cl_at hk.2) (mm_dflok hk.2) (by omega) (by omega) hd (fun q H1 hP1 hD1 hS1 => ?_)
      obtain ⟨hqn, es⟩ := mm_ws_new (c := .inr (a, mm_dfl a)) hD1
      have hfr := (mm_fresh (fun i hi => (hA.2.2.2.1 s s.heap hamb i hi).1) hr.2.2 hD1)
      have g2 := g q hqn hfr (by omega) (by omega) la H1 locs hl (by unfold mm_rep; exact ⟨es ▸ hP1, es ▸ hD1, mm_mk_new hr.2.2 hfr (fun z => absurd (congrArg Prod.fst (Sum.inr.inj z)) (by have := hk.2; show ¬ a = 9; omega))⟩) hS1
      exact W.cs (by omega) (by omega) g2
    split at g
    · next eb =>
      obtain ⟨h1, h2, h3, g⟩ := g
      intro hc hk2 la H locs hl hr hS
      refine hA.2.2.2.2 p e R s m args below meth cd H locs (c - c2) (k - k2) c k cc nL o ini _ _ i a b pc la st CX hamb hb0 eb ht hd hS hl.1 hout h3 hR1 hR2 (by omega) (by omega) (by omega) (by omega) hlocks (fun t hal hsz hold => ?_)
      refine ⟨⟨h, g, hr.1.kept (fun k9 x hx9 => hold x.1 ((hr.1 k9 x hx9).lt)), hr.2.1, hr.2.2⟩, Nat.le_trans hS.1 hsz, fun q hq hq2 => ?_⟩
      rw [hold q (Nat.lt_of_lt_of_le hq hS.1)]
      exact hS.2.1 q hq hq2
    · exact g.elim
  · next t =>
    split at g
    · next n rest =>
      split at g
      · next ti f ef =>
        obtain ⟨h1, h2, h3, h4, g⟩ := g
        intro hc hk2 la H locs hl hr hS
        have key : ∀ (ty : FieldType), newarray.typeOf t = ty → ti < 9 → mm_tyl.getD ti .int = ty → Cond.arrayClass ty ∈ mm_xw → (∀ cA : ClassId, vp_cell cA (f n.toNatClampNeg) = arrV cA n.toNatClampNeg (fun _ => defaultValue ty)) → componentBytes ty ≤ 8 → (∀ (cA : ClassId) , va_RA s cA ty → s.vm.findClass ("[" ++ ty.toString) = some cA) → W p l e R s m args below meth cd H locs (c - c2) (k - k2) (vx_MQ below (mm_Qc D tys b0 Q) (mm_XC D tys b0 Q) args s c k (mm_A b0)) (F0 m pc la (.int n :: rest)) := by
          intro ty e1 e2 e3 e4 e5 e6 e7
          have hta := mm_ty_at hty e2
          rw [e3] at hta
          refine va_newa hx hb (by rw [e1]; exact hts _ (mm_xin e4)) e1 hK hr.1 hr.2.1 hS (fun q hq => Nat.le_trans hb0 hq) e5 h1 rfl (Nat.le_trans (Nat.mul_le_mul h2 e6) (by decide)) (by omega) (by omega) hd (fun q cA H1 hK1 hP1 hD1 hS1 => ?_)
          have z1 := e7 _ (hK1.2 tys.length (cA, ty) (by simp)).2
          have z2 := e7 _ (hK.2 ti _ hta).2
          have e8 : cA = (tys.getD ti (0, .int)).1 := Option.some.inj (z1.symm.trans z2)
          subst e8
          obtain ⟨hqn, es⟩ := mm_ws_new (c := .inl (ti, f n.toNatClampNeg)) hD1
          have hfr := (mm_fresh (fun i hi => (hA.2.2.2.1 s s.heap hamb i hi).1) hr.2.2 hD1)
          have g2 := g q hqn hfr (by omega) (by omega) la H1 locs hl (by unfold mm_rep; exact ⟨es ▸ hP1, es ▸ hD1, mm_mk_new hr.2.2 hfr (fun z => by cases z)⟩) hS1
          exact W.cs (by omega) (by omega) g2
        cases t <;> simp only [mm_arn] at ef <;> cases ef
        · exact key .boolean rfl (by decide) rfl (by decide) (fun _ => rfl) (by decide) (fun _ z => z)
        · exact key .double rfl (by decide) rfl (by decide) (fun _ => rfl) (by decide) (fun _ z => z)
        · exact key .byte rfl (by decide) rfl (by decide) (fun _ => rfl) (by decide) (fun _ z => z)
        · exact key .int rfl (by decide) rfl (by decide) (fun _ => rfl) (by decide) (fun _ z => z)
        · exact key .long rfl (by decide) rfl (by decide) (fun _ => rfl) (by decide) (fun _ z => z)
      · exact g.elim
    · exact g.elim
  · next i i2 =>
    split at g
    · next n9 m9 rest =>
      obtain ⟨rfl, h1, h2, h3, h4, h5, h6, g⟩ := g
      have hlk : mm_look (mm_lnk o) i = some (18, 8, 18) := by
        simp only [mm_lk, decide_eq_true_eq] at hk
        exact hk
      exact mm_cM Z hd hlk (hA.2.2.1 s s.heap hamb).2.2.2 h1 h2 h3 h4 h5 h6 g
    · exact g.elim
  · split at g
    · next v =>
      obtain ⟨ty, e1, e2, hq⟩ := g
      intro hc hk2 la H locs hl hr hS
      refine W.widen (k := c) (n := k) (by omega) (by omega) (vx_ret ?_)
      exact W.zret hx hb (hret.trans e1) e2 (fun t ht hW => ⟨⟨some (.int v), h, rfl, hq, by rw [ht]; exact hr⟩, hS.F ht⟩) hS.2.2 hd (hlocks := hlocks)
    · exact g.elim
  · split at g
    · next v =>
      obtain ⟨e1, hq⟩ := g
      intro hc hk2 la H locs hl hr hS
      refine W.widen (k := c) (n := k) (by omega) (by omega) (vx_ret ?_)
      exact W.lret hx hb (hret.trans e1) (fun t ht hW => ⟨⟨some (.long v), h, rfl, hq, by rw [ht]; exact hr⟩, hS.F ht⟩) hS.2.2 hd (hlocks := hlocks)
    · exact g.elim
  · split at g
    · next v =>
      obtain ⟨e1, hq⟩ := g
      intro hc hk2 la H locs hl hr hS
      refine W.widen (k := c) (n := k) (by omega) (by omega) (vx_ret ?_)
      exact W.dret hx hb (hret.trans e1) (fun t ht hW => ⟨⟨some (.double v), h, rfl, hq, by rw [ht]; exact hr⟩, hS.F ht⟩) hS.2.2 hd (hlocks := hlocks)
    · exact g.elim
  · split at g
    · next v =>
      obtain ⟨e1, hq⟩ := g
      intro hc hk2 la H locs hl hr hS
      refine W.widen (k := c) (n := k) (by omega) (by omega) (vx_ret ?_)
      exact W.fret hx hb (hret.trans e1) (fun t ht hW => ⟨⟨some (.float v), h, rfl, hq, by rw [ht]; exact hr⟩, hS.F ht⟩) hS.2.2 hd (hlocks := hlocks)
    · exact g.elim
  · split at g
    · next v =>
      obtain ⟨ty, e1, e2, hq⟩ := g
      intro hc hk2 la H locs hl hr hS
      refine W.widen (k := c) (n := k) (by omega) (by omega) (vx_ret ?_)
      exact W.aret hx hb (hret.trans e1) e2 (Or.inr ⟨v, rfl⟩) (fun t ht hW => ⟨⟨some (.ref v), h, rfl, hq, by rw [ht]; exact hr⟩, hS.F ht⟩) hS.2.2 hd (hlocks := hlocks)
    · exact g.elim
  · split at g
    · obtain ⟨e1, hq⟩ := g
      intro hc hk2 la H locs hl hr hS
      refine W.widen (k := c) (n := k) (by omega) (by omega) (vx_ret ?_)
      exact W.vret hx hb (hret.trans e1) (fun t ht hW => ⟨⟨none, h, rfl, hq, by rw [ht]; exact hr⟩, hS.F ht⟩) hS.2.2 hd (hlocks := hlocks)
    · exact g.elim
  · split at g
    · next F ef =>
      intro hc hk2
      exact mm_step CX ins a b pc st ls h _ ef (fun x z => by cases z) hd hk (g hc hk2)
    · next P F ef =>
      intro hc hk2
      exact mm_step CX ins a b pc st ls h _ ef (fun x z => by cases z; exact g.1) hd hk (g.2 hc hk2)
    · exact g.elim
end MMT
theorem mm_find_in {l : List mm_E} {pc : Nat} {r : Instr × Nat × Nat} (h : mm_find l pc = some r) : (pc, r) ∈ l := by
  induction l with
  | nil => cases h
  | cons q l ih =>
    unfold mm_find at h
    split at h
    · next e =>
      cases h
      rw [← e]
      exact List.mem_cons_self
    · exact List.mem_cons_of_mem _ (ih h)
/-- entering a method: what the walk of its body gives -/
theorem mm_enter (l : Launch) (D : va_G) (tys : List (ClassId × FieldType)) (b0 : Nat) (Amb : State → Heap → Prop) (hty : tys.map (fun q => q.2) = mm_tyl) (hA : mm_AL l D tys b0 Amb) (X : mm_Cl) {d y c k : Nat} {args : List Value} {h : mm_S} {Q : mm_Re → Prop}
    (IH : ∀ (y c k : Nat) (args : List Value) (h : mm_S) (Q : mm_Re → Prop), mm_Run X d y c k args h Q → mm_Met l D tys b0 Amb d y c k args h Q) (hy : y < 266) (hle : (lg_sl args).length ≤ (mm_m y).2.2.2.1)
    (key : ∀ (p : Program) (e : Env) (s : State) (m : MethodId) (below : List Frame) (meth : Method) (cd : Code), mm_Z p l (mm_rm (d + 1) c k) s m args.toArray meth cd (mm_m y).2.2.1 (mm_m y).2.2.2.1 (mm_m y).1 (mm_ini y) y d c k D tys b0 Amb X →
      mm_KK p l e (mm_rm (d + 1) c k) s m args.toArray below meth cd c k Q (mm_m y).2.2.2.1 D tys b0 (0, [], lv_args 0 args, h) c k) : mm_Met l D tys b0 Amb (d + 1) y c k args h Q := by
  obtain ⟨hpl, how, hmh, hvh, hmx⟩ := mm_mvs hy
  refine vx_ofW (cc := (mm_m y).2.2.1) (maxL := (mm_m y).2.2.2.1) (ret := (mm_m y).2.2.2.2) hpl rfl ?_
  intro p e s m args' below meth cd s₁ B hml hout hv
  obtain ⟨rfl, hrep, hK, hnw, hb0, hamb⟩ := hv
  have hts0 := atoms_spec (ws := mm_wsY y) B.pre
  have hts : ∀ w ∈ mm_W, w.before args.toArray s = true := fun w hw => hts0 w (List.mem_cons_of_mem _ hw)
  have hown : s.vm.findClass (mm_R (mm_m y).1) = some m.cls := by
    rw [how]
    exact findClass_of_methodNamed B.named
  have hname : meth.name = (mm_m y).2.1.name := (name_of_methodNamed B.named B.method).1
  have CX : mm_Cx p s m args.toArray meth cd (mm_m y).2.2.1 (mm_m y).2.2.2.1 (mm_m y).1 (mm_ini y) D tys := ⟨B.exec, B.bytes, hml, hts, hnw, hown, fun z => by rw [hname]; simpa [mm_ini] using z, hK, hty⟩
  rw [lg_entry_eq]
  have hl := lv_entry args hle
  have main := key p e s m below meth cd ⟨CX, rfl, B.returns, B.notSynchronized, hout, hb0, hamb, hA, IH⟩ (Nat.le_refl _) (Nat.le_refl _) _ s.heap [] hl hrep va_S.rf
  simp only [Nat.sub_self] at main
  exact main
/-- what the little machine runs from here, the machine does -/
theorem mm_walk {p : Program} {l : Launch} {e : Env} {R : Room} {s : State} {m : MethodId} {args : Array Value} {below : List Frame} {meth : Method} {cd : Code} {D : va_G} {tys : List (ClassId × FieldType)} {b0 : Nat} {Amb : State → Heap → Prop} {X : mm_Cl} {d y c k : Nat} {Q : mm_Re → Prop} (hy : y < 266)
    (Z : mm_Z p l R s m args meth cd (mm_m y).2.2.1 (mm_m y).2.2.2.1 (mm_m y).1 (mm_ini y) y d c k D tys b0 Amb X) {F : mm_F} {c2 k2 : Nat} (g : mm_Ex (mm_Run X d) y Q F c2 k2) : mm_KK p l e R s m args below meth cd c k Q (mm_m y).2.2.2.1 D tys b0 F c2 k2 := by
  have hcd := List.all_eq_true.mp (mm_cdok y hy)
  refine g (mm_KK p l e R s m args below meth cd c k Q (mm_m y).2.2.2.1 D tys b0) ?_ ?_
  · intro F c2 k2 hrow
    obtain ⟨pc, st, ls, h2⟩ := F
    unfold mm_row1 at hrow
    split at hrow
    · next ins a b ef =>
      have h9 := hcd _ (mm_find_in ef)
      simp only [mm_eok, Bool.and_eq_true, decide_eq_true_eq] at h9
      exact mm_doS (cc := (mm_m y).2.2.1) (o := (mm_m y).1) (ini := mm_ini y) (d := d) (X := X) Z h9.1 h9.2.1 h9.2.2 hrow
    · exact hrow.elim
  · intro pc st ls ls2 h2 c2 k2 hs g hc hk la H locs hl2 hr hS
    exact g hc hk la H locs ⟨hl2.1, hl2.2.1, fun q hq => mm_at hl2 (hs q hq)⟩ hr hS
/-- THE LITTLE MACHINE IS THE MACHINE: what it runs, the machine does -/
theorem mm_sound (l : Launch) (D : va_G) (tys : List (ClassId × FieldType)) (b0 : Nat) (Amb : State → Heap → Prop) (hty : tys.map (fun q => q.2) = mm_tyl) (hA : mm_AL l D tys b0 Amb) (X : mm_Cl) (hX : mm_mono X)
    (hXs : ∀ d : Nat, (∀ (y c k : Nat) (args : List Value) (h : mm_S) (Q : mm_Re → Prop), mm_Run X d y c k args h Q → mm_Met l D tys b0 Amb d y c k args h Q) → ∀ (y c k : Nat) (args : List Value) (h : mm_S) (Q : mm_Re → Prop), y ∈ mm_ext → y < 266 → (lg_sl args).length ≤ (mm_m y).2.2.2.1 → X y c k args h Q → mm_Met l D tys b0 Amb (d + 1) y c k args h Q) :
    ∀ (d y c k : Nat) (args : List Value) (h : mm_S) (Q : mm_Re → Prop), mm_Run X d y c k args h Q → mm_Met l D tys b0 Amb d y c k args h Q := by
  intro d
  induction d with
  | zero => intro y c k args h Q hrun; exact hrun.elim
  | succ d IH =>
    intro y c k args h Q hrun
    obtain ⟨hy, hle, hrun⟩ := hrun
    split at hrun
    · next e => exact hXs d IH _ _ _ _ _ _ e hy hle hrun
    exact mm_enter l D tys b0 Amb hty hA X IH hy hle fun p e s m below meth cd Z => mm_walk hy Z hrun

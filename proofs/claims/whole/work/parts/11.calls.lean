section MMD
variable {p : Program} {l : Launch} {e : Env} {R : Room} {s : State} {m : MethodId} {args : Array Value} {below : List Frame} {meth : Method} {cd : Code} {H : Heap} {locs : List Loc}
variable {cc : ByteArray} {nL o y d c k : Nat} {ini : Bool} {D : va_G} {tys : List (ClassId × FieldType)} {b0 : Nat} {Amb : State → Heap → Prop} {X : mm_Cl} {Q : mm_Re → Prop}
/-- what holds of the walked method all along -/
def mm_Z (p : Program) (l : Launch) (R : Room) (s : State) (m : MethodId) (args : Array Value) (meth : Method) (cd : Code) (cc : ByteArray) (nL o : Nat) (ini : Bool) (y d c k : Nat) (D : va_G) (tys : List (ClassId × FieldType)) (b0 : Nat) (Amb : State → Heap → Prop) (X : mm_Cl) : Prop :=
  mm_Cx p s m args meth cd cc nL o ini D tys ∧ R = mm_rm (d + 1) c k ∧ meth.sig.returnType = (mm_m y).2.2.2.2 ∧ meth.locks = false ∧ (∀ x ∈ cd.exceptionTable.toList, False) ∧ b0 ≤ s.heap.size ∧ Amb s s.heap ∧ mm_AL l D tys b0 Amb ∧
  (∀ (y c k : Nat) (args : List Value) (h : mm_S) (Q : mm_Re → Prop), mm_Run X d y c k args h Q → mm_Met l D tys b0 Amb d y c k args h Q)
/-- going on, with so many cells and slots left -/
def mm_KK (p : Program) (l : Launch) (e : Env) (R : Room) (s : State) (m : MethodId) (args : Array Value) (below : List Frame) (meth : Method) (cd : Code) (c k : Nat) (Q : mm_Re → Prop) (nL : Nat) (D : va_G) (tys : List (ClassId × FieldType)) (b0 : Nat) : mm_F → Nat → Nat → Prop := fun F c2 k2 =>
  c2 ≤ c → k2 ≤ k → mm_K p l e R s m args below meth cd (c - c2) (k - k2) (vx_MQ below (mm_Qc D tys b0 Q) (mm_XC D tys b0 Q) args s c k (mm_A b0)) nL D tys b0 s.heap F
theorem mm_pre (hA : mm_AL l D tys b0 Amb) (hb0 : b0 ≤ s.heap.size) (hamb : Amb s s.heap) (hK : va_K D mm_cl tys s) (hnw : ∀ w ∈ mm_N, va_Nw w s) {h : mm_S} (hr : mm_rep D tys b0 h H) (hS : va_S (mm_A b0) s.heap H locs) (As : List Value) :
    ∀ U : State, U.heap = H → s.WarmedH U.vm → va_Pc As (mm_B D tys b0 Amb h) As.toArray U := by
  intro U hU hW
  refine ⟨rfl, by rw [hU]; exact hr, va_K.moved hW.alike hK, mm_nest_warm hW hnw, by rw [hU]; exact Nat.le_trans hb0 hS.1, ?_⟩
  refine hA.1 s U s.heap U.heap hW hb0 (fun q hq => ?_) hamb
  rw [hU]
  exact hS.2.1 q (Nat.lt_of_lt_of_le hq hb0) (Nat.not_le.mpr hq)
theorem mm_blind (hA : mm_AL l D tys b0 Amb) (As : List Value) (h : mm_S) : FrameBlind (va_Pc As (mm_B D tys b0 Amb h)) := by
  intro a U g mk q
  obtain ⟨e1, hrep, hK, hnw, hb, hamb⟩ := q
  exact ⟨e1, hrep, va_K.moved (u := U) (U := U.calling g mk a) (Vm.Alike.refl U.vm) hK, mm_nest_same (s := U) (U := U.calling g mk a) rfl hnw, hb, hA.2.1 U (U.calling g mk a) U.heap rfl hamb⟩
/-- a call, its run given by one of the machine's rows -/
theorem mm_callS (Z : mm_Z p l R s m args meth cd cc nL o ini y d c k D tys b0 Amb X) {a pc c2 k2 : Nat} {As rest st : List Value} {ls : mm_L} {h : mm_S}
    (g : mm_call (mm_Run X d) Q (mm_KK p l e R s m args below meth cd c k Q nL D tys b0) a pc As rest ls h c2 k2)
    (hrun : ∀ (mc ms : Nat) (Q2 : mm_Re → Prop) (la : Array Slot) (H : Heap) (locs : List Loc), mc ≤ c2 → ms ≤ k2 → c2 ≤ c → k2 ≤ k → mm_wd rest ≤ 8 → a < 266 → mm_Met l D tys b0 Amb d a mc ms As h Q2 → lv_has la nL ls → mm_rep D tys b0 h H → va_S (mm_A b0) s.heap H locs →
      vx_Run p l e R s m args below meth cd H locs (c - c2) (k - k2) mc ms (F0 m pc la st) rest (mm_Qc D tys b0 Q2 As.toArray) (mm_XC D tys b0 Q2) (mm_A b0)) :
    mm_KK p l e R s m args below meth cd c k Q nL D tys b0 (pc, st, ls, h) c2 k2 := by
  obtain ⟨CX, rfl, hret, hlocks, hout, hb0, hamb, hA, IH⟩ := Z
  intro hc hk la H locs hl hr hS
  obtain ⟨mc, ms, h1, h2, h3, h4⟩ := g
  have ha : a < 266 := by
    cases d with
    | zero => exact h4.elim
    | succ d => exact h4.1
  refine mm_called (nL := nL) (hrun mc ms _ la H locs h1 h2 hc hk h3 ha (IH _ _ _ _ _ _ h4) hl hr hS) hl hS hout hlocks (by omega) (by omega) (fun v h2' hq => ?_) (fun E h2' hq => hq)
  have hk2 := hq (by omega) (by omega)
  intro la' H' locs' hl' hr' hS'
  refine W.cs (show c - c2 + mc = c - (c2 - mc) by omega) (show k - k2 + ms = k - (k2 - ms) by omega) (hk2 la' H' locs' hl' hr' hS')
theorem mm_take {st : List Value} {n : Nat} (h : n ≤ st.length) : (st.take n).reverse.length = n := by
  rw [List.length_reverse, List.length_take]
  omega
theorem mm_stk {st : List Value} {n : Nat} : st = (st.take n).reverse.reverse ++ st.drop n := by
  rw [List.reverse_reverse, List.take_append_drop]
theorem mm_stkV {st rest : List Value} {n q : Nat} (h : st.drop n = .ref q :: rest) : st = (st.take n).reverse.reverse ++ .ref q :: rest := by
  rw [← h, List.reverse_reverse, List.take_append_drop]
theorem mm_room (d c k mc ms maxL : Nat) (h : maxL ≤ 20) : (mm_rm d mc ms).frames + 1 ≤ (mm_rm (d + 1) c k).frames ∧ 8 + (maxL + 11) + (mm_rm d mc ms).locals ≤ (mm_rm (d + 1) c k).locals := by
  simp only [mm_rm]
  omega
theorem mm_mvs {y : Nat} (h : y < 266) : plainName (mm_m y).2.1.cls = true ∧ mm_R (mm_m y).1 = (mm_m y).2.1.cls ∧ (mm_m y).2.1.cls ≠ "java/lang/invoke/MethodHandle" ∧ (mm_m y).2.1.cls ≠ "java/lang/invoke/VarHandle" ∧ (mm_m y).2.2.2.1 ≤ 20 := by
  have h1 := mm_mv_at h
  simp only [mm_mv, Bool.and_eq_true, decide_eq_true_eq] at h1
  exact h1
theorem mm_rvs {o i t a b : Nat} (h : mm_look (mm_lnk o) i = some (t, a, b)) (ht : (2 ≤ t ∧ t ≤ 7) ∨ t = 13 ∨ t = 14) : (parseMethodDescriptor (mm_m a).2.1.desc).map (fun d => d.parameters.length) = some (b % 16) ∧ (t = 6 ∨ t = 7 → (mm_m a).2.1.name = "<init>" ∧ (mm_m a).2.2.2.2 = none) ∧ (t = 14 → (mm_m a).2.1.name ≠ "<init>") := by
  have h1 := mm_rv_at h
  simp only [mm_rv, if_pos ht, Bool.and_eq_true, Bool.or_eq_true, decide_eq_true_eq] at h1
  obtain ⟨-, ⟨h2, h3⟩, h4⟩ := h1
  refine ⟨h2, fun h5 => ?_, fun h5 => ?_⟩
  · rcases h3 with h3 | h3
    · omega
    · exact h3
  · rcases h4 with h4 | h4
    · omega
    · exact h4
theorem mm_rowB {o i : Nat} {r : Nat × Nat × Nat} {s : State} {args : Array Value} (hts : ∀ w ∈ mm_W, w.before args s = true) (h : mm_look (mm_lnk o) i = some r) : ∀ w ∈ mm_rw o (i, r), w.before args s = true := fun w hw => hts w (mm_row h w hw)
theorem mm_rowNB {o i : Nat} {r : Nat × Nat × Nat} {s : State} (hnw : ∀ w ∈ mm_N, va_Nw w s) (h : mm_look (mm_lnk o) i = some r) : ∀ w ∈ mm_rn o (i, r), va_Nw w s := fun w hw => hnw w (mm_rowN h w hw)

theorem mm_cS (Z : mm_Z p l R s m args meth cd cc nL o ini y d c k D tys b0 Amb X) {i a b pc c2 k2 : Nat} {st : List Value} {ls : mm_L} {h : mm_S} (hd : decode cc pc = .ok (.invokestatic i, 3)) (hl0 : mm_look (mm_lnk o) i = some (2, a, b)) (hn : b % 16 ≤ st.length) (g : mm_call (mm_Run X d) Q (mm_KK p l e R s m args below meth cd c k Q nL D tys b0) a pc (st.take (b % 16)).reverse (st.drop (b % 16)) ls h c2 k2) : mm_KK p l e R s m args below meth cd c k Q nL D tys b0 (pc, st, ls, h) c2 k2 := by
  obtain ⟨CX, rfl, hret, hlocks, hout, hb0, hamb, hA, IH⟩ := id Z
  obtain ⟨hx, hb, hml, hts, hnw, hown, hini, hK, hty⟩ := id CX
  have hb := hb
  have w := mm_rowB hts hl0
  have hv := mm_rvs hl0 (by omega)
  refine mm_callS Z g (fun mc ms Q2 la H locs h1 h2 hc hk hw ha hM hl hr hS => ?_)
  obtain ⟨hpl, how, hmh, hvh, hmx⟩ := mm_mvs ha
  have hG : GoodIn mm_W (mm_wsY a) := mm_wsY_good ha
  have hR := mm_room d c k mc ms (mm_m a).2.2.2.1 hmx
  have hf : c - c2 + mc ≤ (mm_rm (d + 1) c k).cells ∧ k - k2 + ms ≤ (mm_rm (d + 1) c k).slots := by simp only [mm_rm]; omega
  have hS0 := mm_pre (l := l) hA hb0 hamb hK hnw hr hS
  exact vx_runS ⟨hx, hb, hml, hown, hts⟩ hM ⟨callB_of (b % 16) hts hG rfl rfl rfl (w _ (List.mem_cons_of_mem _ (List.mem_cons_of_mem _ List.mem_cons_self))) (w _ List.mem_cons_self) ⟨hmh, hvh, hv.1⟩ hR, w _ (List.mem_cons_of_mem _ List.mem_cons_self)⟩ ⟨mm_blind hA _ _, hS0 _⟩ rfl (mm_take hn) hl.1 mm_stk (lv_room hw) hd hf
theorem mm_cSN (Z : mm_Z p l R s m args meth cd cc nL o ini y d c k D tys b0 Amb X) {i a b pc c2 k2 : Nat} {st : List Value} {ls : mm_L} {h : mm_S} (hd : decode cc pc = .ok (.invokestatic i, 3)) (hl0 : mm_look (mm_lnk o) i = some (3, a, b)) (hn : b % 16 ≤ st.length) (g : mm_call (mm_Run X d) Q (mm_KK p l e R s m args below meth cd c k Q nL D tys b0) a pc (st.take (b % 16)).reverse (st.drop (b % 16)) ls h c2 k2) : mm_KK p l e R s m args below meth cd c k Q nL D tys b0 (pc, st, ls, h) c2 k2 := by
  obtain ⟨CX, rfl, hret, hlocks, hout, hb0, hamb, hA, IH⟩ := id Z
  obtain ⟨hx, hb, hml, hts, hnw, hown, hini, hK, hty⟩ := id CX
  have hb := hb
  have w := mm_rowB hts hl0
  have hv := mm_rvs hl0 (by omega)
  have wn := mm_rowNB hnw hl0
  refine mm_callS Z g (fun mc ms Q2 la H locs h1 h2 hc hk hw ha hM hl hr hS => ?_)
  obtain ⟨hpl, how, hmh, hvh, hmx⟩ := mm_mvs ha
  have hG : GoodIn mm_W (mm_wsY a) := mm_wsY_good ha
  have hR := mm_room d c k mc ms (mm_m a).2.2.2.1 hmx
  have hf : c - c2 + mc ≤ (mm_rm (d + 1) c k).cells ∧ k - k2 + ms ≤ (mm_rm (d + 1) c k).slots := by simp only [mm_rm]; omega
  have hS0 := mm_pre (l := l) hA hb0 hamb hK hnw hr hS
  exact vx_runSN ⟨hx, hb, hml, hown, hts⟩ hM ⟨va_cnB (b % 16) hts hG rfl rfl rfl (wn _ List.mem_cons_self) (w _ (List.mem_cons_of_mem _ List.mem_cons_self)) ⟨hmh, hvh, hv.1⟩ hR, w _ List.mem_cons_self, trivial⟩ ⟨mm_blind hA _ _, hS0 _⟩ rfl (mm_take hn) hl.1 mm_stk (lv_room hw) hd hf
theorem mm_cV (Z : mm_Z p l R s m args meth cd cc nL o ini y d c k D tys b0 Amb X) {i a b pc c2 k2 : Nat} {st : List Value} {ls : mm_L} {h : mm_S} (hd : decode cc pc = .ok (.invokevirtual i, 3)) (hl0 : mm_look (mm_lnk o) i = some (4, a, b)) {q : Nat} {rest : List Value} (hn : b % 16 ≤ st.length) (hq0 : st.drop (b % 16) = .ref q :: rest) (g : mm_call (mm_Run X d) Q (mm_KK p l e R s m args below meth cd c k Q nL D tys b0) a pc (.ref q :: (st.take (b % 16)).reverse) rest ls h c2 k2) {ci : Nat} {fs : List Value} (hq : q ∈ h.1) (hci : ci < 8) (hcell : h.2 q = .inr (ci, fs)) (hcls : (mm_C ci).1 = (mm_m a).2.1.cls) : mm_KK p l e R s m args below meth cd c k Q nL D tys b0 (pc, st, ls, h) c2 k2 := by
  obtain ⟨CX, rfl, hret, hlocks, hout, hb0, hamb, hA, IH⟩ := id Z
  obtain ⟨hx, hb, hml, hts, hnw, hown, hini, hK, hty⟩ := id CX
  have hb := hb
  have w := mm_rowB hts hl0
  have hv := mm_rvs hl0 (by omega)
  refine mm_callS Z g (fun mc ms Q2 la H locs h1 h2 hc hk hw ha hM hl hr hS => ?_)
  obtain ⟨hpl, how, hmh, hvh, hmx⟩ := mm_mvs ha
  have hG : GoodIn mm_W (mm_wsY a) := mm_wsY_good ha
  have hR := mm_room d c k mc ms (mm_m a).2.2.2.1 hmx
  have hf : c - c2 + mc ≤ (mm_rm (d + 1) c k).cells ∧ k - k2 + ms ≤ (mm_rm (d + 1) c k).slots := by simp only [mm_rm]; omega
  have hS0 := mm_pre (l := l) hA hb0 hamb hK hnw hr hS
  obtain ⟨k0, hk0⟩ := mm_ws_get (tys := tys) hq
  rw [hcell] at hk0
  have hrc := va_recv hK hr.1 (mm_cl_at hci) hk0
  rw [hcls] at hrc
  exact vx_runV ⟨hx, hb, hml, hown, hts⟩ hM ⟨callB_of (b % 16) hts hG rfl rfl rfl (w _ (List.mem_cons_of_mem _ (List.mem_cons_of_mem _ (List.mem_cons_of_mem _ List.mem_cons_self)))) (w _ List.mem_cons_self) ⟨hmh, hvh, hv.1⟩ hR, w _ (List.mem_cons_of_mem _ List.mem_cons_self), w _ (List.mem_cons_of_mem _ (List.mem_cons_of_mem _ List.mem_cons_self))⟩ ⟨mm_blind hA _ _, hrc, hS0 _⟩ rfl (mm_take hn) hl.1 (mm_stkV hq0) (lv_room hw) hd hf
theorem mm_cVS (Z : mm_Z p l R s m args meth cd cc nL o ini y d c k D tys b0 Amb X) {i a b pc c2 k2 : Nat} {st : List Value} {ls : mm_L} {h : mm_S} (hd : decode cc pc = .ok (.invokevirtual i, 3)) (hl0 : mm_look (mm_lnk o) i = some (4, a, b)) {q : Nat} {rest : List Value} (hn : b % 16 ≤ st.length) (hq0 : st.drop (b % 16) = .ref q :: rest) (g : mm_call (mm_Run X d) Q (mm_KK p l e R s m args below meth cd c k Q nL D tys b0) a pc (.ref q :: (st.take (b % 16)).reverse) rest ls h c2 k2) (hcell : h.2 q = .inr (9, [])) (hcls : (mm_m a).2.1.cls = RJ0) : mm_KK p l e R s m args below meth cd c k Q nL D tys b0 (pc, st, ls, h) c2 k2 := by
  obtain ⟨CX, rfl, hret, hlocks, hout, hb0, hamb, hA, IH⟩ := id Z
  obtain ⟨hx, hb, hml, hts, hnw, hown, hini, hK, hty⟩ := id CX
  have hb := hb
  have w := mm_rowB hts hl0
  have hv := mm_rvs hl0 (by omega)
  refine mm_callS Z g (fun mc ms Q2 la H locs h1 h2 hc hk hw ha hM hl hr hS => ?_)
  obtain ⟨hpl, how, hmh, hvh, hmx⟩ := mm_mvs ha
  have hG : GoodIn mm_W (mm_wsY a) := mm_wsY_good ha
  have hR := mm_room d c k mc ms (mm_m a).2.2.2.1 hmx
  have hf : c - c2 + mc ≤ (mm_rm (d + 1) c k).cells ∧ k - k2 + ms ≤ (mm_rm (d + 1) c k).slots := by simp only [mm_rm]; omega
  have hS0 := mm_pre (l := l) hA hb0 hamb hK hnw hr hS
  obtain ⟨i9, hi9, rfl⟩ := hr.2.2.1 q hcell
  have hamb2 : Amb s H := hA.1 s s s.heap H (State.WarmedH.refl s) hb0 (fun q9 hq9 => hS.2.1 q9 (Nat.lt_of_lt_of_le hq9 hb0) (Nat.not_le.mpr hq9)) hamb
  have hrc := (hA.2.2.2.1 s H hamb2 i9 hi9).2
  rw [← hcls] at hrc
  exact vx_runV ⟨hx, hb, hml, hown, hts⟩ hM ⟨callB_of (b % 16) hts hG rfl rfl rfl (w _ (List.mem_cons_of_mem _ (List.mem_cons_of_mem _ (List.mem_cons_of_mem _ List.mem_cons_self)))) (w _ List.mem_cons_self) ⟨hmh, hvh, hv.1⟩ hR, w _ (List.mem_cons_of_mem _ List.mem_cons_self), w _ (List.mem_cons_of_mem _ (List.mem_cons_of_mem _ List.mem_cons_self))⟩ ⟨mm_blind hA _ _, hrc, hS0 _⟩ rfl (mm_take hn) hl.1 (mm_stkV hq0) (lv_room hw) hd hf
theorem mm_cVN (Z : mm_Z p l R s m args meth cd cc nL o ini y d c k D tys b0 Amb X) {i a b pc c2 k2 : Nat} {st : List Value} {ls : mm_L} {h : mm_S} (hd : decode cc pc = .ok (.invokevirtual i, 3)) (hl0 : mm_look (mm_lnk o) i = some (5, a, b)) {q : Nat} {rest : List Value} (hn : b % 16 ≤ st.length) (hq0 : st.drop (b % 16) = .ref q :: rest) (g : mm_call (mm_Run X d) Q (mm_KK p l e R s m args below meth cd c k Q nL D tys b0) a pc (.ref q :: (st.take (b % 16)).reverse) rest ls h c2 k2) {ci : Nat} {fs : List Value} (hq : q ∈ h.1) (hci : ci < 8) (hcell : h.2 q = .inr (ci, fs)) (hcls : (mm_C ci).1 = (mm_m a).2.1.cls) : mm_KK p l e R s m args below meth cd c k Q nL D tys b0 (pc, st, ls, h) c2 k2 := by
  obtain ⟨CX, rfl, hret, hlocks, hout, hb0, hamb, hA, IH⟩ := id Z
  obtain ⟨hx, hb, hml, hts, hnw, hown, hini, hK, hty⟩ := id CX
  have hb := hb
  have w := mm_rowB hts hl0
  have hv := mm_rvs hl0 (by omega)
  have wn := mm_rowNB hnw hl0
  refine mm_callS Z g (fun mc ms Q2 la H locs h1 h2 hc hk hw ha hM hl hr hS => ?_)
  obtain ⟨hpl, how, hmh, hvh, hmx⟩ := mm_mvs ha
  have hG : GoodIn mm_W (mm_wsY a) := mm_wsY_good ha
  have hR := mm_room d c k mc ms (mm_m a).2.2.2.1 hmx
  have hf : c - c2 + mc ≤ (mm_rm (d + 1) c k).cells ∧ k - k2 + ms ≤ (mm_rm (d + 1) c k).slots := by simp only [mm_rm]; omega
  have hS0 := mm_pre (l := l) hA hb0 hamb hK hnw hr hS
  obtain ⟨k0, hk0⟩ := mm_ws_get (tys := tys) hq
  rw [hcell] at hk0
  have hrc := va_recv hK hr.1 (mm_cl_at hci) hk0
  rw [hcls] at hrc
  exact vx_runVN ⟨hx, hb, hml, hown, hts⟩ hM ⟨va_cnB (b % 16) hts hG rfl rfl rfl (wn _ List.mem_cons_self) (w _ (List.mem_cons_of_mem _ (List.mem_cons_of_mem _ List.mem_cons_self))) ⟨hmh, hvh, hv.1⟩ hR, w _ List.mem_cons_self, w _ (List.mem_cons_of_mem _ List.mem_cons_self)⟩ ⟨mm_blind hA _ _, hrc, hS0 _⟩ rfl (mm_take hn) hl.1 (mm_stkV hq0) (lv_room hw) hd hf
theorem mm_cI (Z : mm_Z p l R s m args meth cd cc nL o ini y d c k D tys b0 Amb X) {i a b pc c2 k2 : Nat} {st : List Value} {ls : mm_L} {h : mm_S} (hd : decode cc pc = .ok (.invokespecial i, 3)) (hl0 : mm_look (mm_lnk o) i = some (6, a, b)) {q : Nat} {rest : List Value} (hn : b % 16 ≤ st.length) (hq0 : st.drop (b % 16) = .ref q :: rest) (g : mm_call (mm_Run X d) Q (mm_KK p l e R s m args below meth cd c k Q nL D tys b0) a pc (.ref q :: (st.take (b % 16)).reverse) rest ls h c2 k2) : mm_KK p l e R s m args below meth cd c k Q nL D tys b0 (pc, st, ls, h) c2 k2 := by
  obtain ⟨CX, rfl, hret, hlocks, hout, hb0, hamb, hA, IH⟩ := id Z
  obtain ⟨hx, hb, hml, hts, hnw, hown, hini, hK, hty⟩ := id CX
  have hb := hb
  have w := mm_rowB hts hl0
  have hv := mm_rvs hl0 (by omega)
  refine mm_callS Z g (fun mc ms Q2 la H locs h1 h2 hc hk hw ha hM hl hr hS => ?_)
  obtain ⟨hpl, how, hmh, hvh, hmx⟩ := mm_mvs ha
  have hG : GoodIn mm_W (mm_wsY a) := mm_wsY_good ha
  have hR := mm_room d c k mc ms (mm_m a).2.2.2.1 hmx
  have hf : c - c2 + mc ≤ (mm_rm (d + 1) c k).cells ∧ k - k2 + ms ≤ (mm_rm (d + 1) c k).slots := by simp only [mm_rm]; omega
  have hS0 := mm_pre (l := l) hA hb0 hamb hK hnw hr hS
  obtain ⟨hn1, hn2⟩ := hv.2.1 (by omega)
  have hM2 := hM
  unfold mm_Met mm_wsY at hM2
  rw [hn2] at hM2
  have hG2 : GoodIn mm_W (Cond.code (mm_m a).2.1 (mm_m a).2.2.1 (mm_m a).2.2.2.1 none :: mm_W) := by
    have h9 := hG
    unfold mm_wsY at h9
    rw [hn2] at h9
    exact h9
  exact vx_runI ⟨hx, hb, hml, hown, hts⟩ hM2 ⟨callB_of (b % 16) hts hG2 rfl rfl rfl (w _ (List.mem_cons_of_mem _ (List.mem_cons_of_mem _ List.mem_cons_self))) (w _ List.mem_cons_self) ⟨hmh, hvh, hv.1⟩ hR, hn1, w _ (List.mem_cons_of_mem _ List.mem_cons_self)⟩ ⟨mm_blind hA _ _, hS0 _⟩ rfl (mm_take hn) hl.1 (mm_stkV hq0) (lv_room hw) hd hf
theorem mm_cIN (Z : mm_Z p l R s m args meth cd cc nL o ini y d c k D tys b0 Amb X) {i a b pc c2 k2 : Nat} {st : List Value} {ls : mm_L} {h : mm_S} (hd : decode cc pc = .ok (.invokespecial i, 3)) (hl0 : mm_look (mm_lnk o) i = some (7, a, b)) {q : Nat} {rest : List Value} (hn : b % 16 ≤ st.length) (hq0 : st.drop (b % 16) = .ref q :: rest) (g : mm_call (mm_Run X d) Q (mm_KK p l e R s m args below meth cd c k Q nL D tys b0) a pc (.ref q :: (st.take (b % 16)).reverse) rest ls h c2 k2) : mm_KK p l e R s m args below meth cd c k Q nL D tys b0 (pc, st, ls, h) c2 k2 := by
  obtain ⟨CX, rfl, hret, hlocks, hout, hb0, hamb, hA, IH⟩ := id Z
  obtain ⟨hx, hb, hml, hts, hnw, hown, hini, hK, hty⟩ := id CX
  have hb := hb
  have w := mm_rowB hts hl0
  have hv := mm_rvs hl0 (by omega)
  have wn := mm_rowNB hnw hl0
  refine mm_callS Z g (fun mc ms Q2 la H locs h1 h2 hc hk hw ha hM hl hr hS => ?_)
  obtain ⟨hpl, how, hmh, hvh, hmx⟩ := mm_mvs ha
  have hG : GoodIn mm_W (mm_wsY a) := mm_wsY_good ha
  have hR := mm_room d c k mc ms (mm_m a).2.2.2.1 hmx
  have hf : c - c2 + mc ≤ (mm_rm (d + 1) c k).cells ∧ k - k2 + ms ≤ (mm_rm (d + 1) c k).slots := by simp only [mm_rm]; omega
  have hS0 := mm_pre (l := l) hA hb0 hamb hK hnw hr hS
  obtain ⟨hn1, hn2⟩ := hv.2.1 (by omega)
  have hM2 := hM
  unfold mm_Met mm_wsY at hM2
  rw [hn2] at hM2
  have hG2 : GoodIn mm_W (Cond.code (mm_m a).2.1 (mm_m a).2.2.1 (mm_m a).2.2.2.1 none :: mm_W) := by
    have h9 := hG
    unfold mm_wsY at h9
    rw [hn2] at h9
    exact h9
  exact vx_runIN ⟨hx, hb, hml, hown, hts⟩ hM2 ⟨va_cnB (b % 16) hts hG2 rfl rfl rfl (wn _ List.mem_cons_self) (w _ (List.mem_cons_of_mem _ List.mem_cons_self)) ⟨hmh, hvh, hv.1⟩ hR, hn1, w _ List.mem_cons_self⟩ ⟨mm_blind hA _ _, hS0 _⟩ rfl (mm_take hn) hl.1 (mm_stkV hq0) (lv_room hw) hd hf
theorem mm_cU (Z : mm_Z p l R s m args meth cd cc nL o ini y d c k D tys b0 Amb X) {i a b pc c2 k2 : Nat} {st : List Value} {ls : mm_L} {h : mm_S} (hd : decode cc pc = .ok (.invokevirtual i, 3)) (hl0 : mm_look (mm_lnk o) i = some (13, a, b)) {q : Nat} {rest : List Value} (hn : b % 16 ≤ st.length) (hq0 : st.drop (b % 16) = .ref q :: rest) (g : mm_call (mm_Run X d) Q (mm_KK p l e R s m args below meth cd c k Q nL D tys b0) a pc (.ref q :: (st.take (b % 16)).reverse) rest ls h c2 k2) {fs : List Value} (hq : q ∈ h.1) (hcell : h.2 q = .inr (7, fs)) : mm_KK p l e R s m args below meth cd c k Q nL D tys b0 (pc, st, ls, h) c2 k2 := by
  obtain ⟨CX, rfl, hret, hlocks, hout, hb0, hamb, hA, IH⟩ := id Z
  obtain ⟨hx, hb, hml, hts, hnw, hown, hini, hK, hty⟩ := id CX
  have hb := hb
  have w := mm_rowB hts hl0
  have hv := mm_rvs hl0 (by omega)
  refine mm_callS Z g (fun mc ms Q2 la H locs h1 h2 hc hk hw ha hM hl hr hS => ?_)
  obtain ⟨hpl, how, hmh, hvh, hmx⟩ := mm_mvs ha
  have hG : GoodIn mm_W (mm_wsY a) := mm_wsY_good ha
  have hR := mm_room d c k mc ms (mm_m a).2.2.2.1 hmx
  have hf : c - c2 + mc ≤ (mm_rm (d + 1) c k).cells ∧ k - k2 + ms ≤ (mm_rm (d + 1) c k).slots := by simp only [mm_rm]; omega
  have hS0 := mm_pre (l := l) hA hb0 hamb hK hnw hr hS
  obtain ⟨k0, hk0⟩ := mm_ws_get (tys := tys) hq
  rw [hcell] at hk0
  have hrc := va_recv hK hr.1 (mm_cl_at (a := 7) (by decide)) hk0
  have hT : ∀ w ∈ mm_rw o (i, (13, a, b)), w ∈ mm_W ∧ ((w.onTables && w.keeps) = true ∨ ∃ ty, w = .arrayClass ty) := fun w hw => ⟨mm_row hl0 w hw, mm_goodW (mm_row hl0 w hw)⟩
  have hT2 : GoodIn mm_W (va_wsU (mm_R o) i RJ4 (mm_m a).2.1.cls (mm_m a).2.1 (mm_m a).2.1 (mm_wsY a)) := fun w hw => (List.mem_append.mp hw).elim (fun h9 => hT w h9) (fun h9 => hG w h9)
  exact vx_runU (C := RJ4) ⟨hx, hb, hml, hown, hts⟩ hM (va_cwU (b % 16) hts hT2 rfl rfl rfl rfl ⟨hmh, hvh, hv.1⟩ hR) ⟨mm_blind hA _ _, hrc, hS0 _⟩ rfl (mm_take hn) hl.1 (mm_stkV hq0) (lv_room hw) hd hf
theorem mm_cSU (Z : mm_Z p l R s m args meth cd cc nL o ini y d c k D tys b0 Amb X) {i a b pc c2 k2 : Nat} {st : List Value} {ls : mm_L} {h : mm_S} (hd : decode cc pc = .ok (.invokespecial i, 3)) (hl0 : mm_look (mm_lnk o) i = some (14, a, b)) {q : Nat} {rest : List Value} (hn : b % 16 ≤ st.length) (hq0 : st.drop (b % 16) = .ref q :: rest) (g : mm_call (mm_Run X d) Q (mm_KK p l e R s m args below meth cd c k Q nL D tys b0) a pc (.ref q :: (st.take (b % 16)).reverse) rest ls h c2 k2) {ci : Nat} {fs : List Value} (hq : q ∈ h.1) (hci : ci < 8) (hcell : h.2 q = .inr (ci, fs)) : mm_KK p l e R s m args below meth cd c k Q nL D tys b0 (pc, st, ls, h) c2 k2 := by
  obtain ⟨CX, rfl, hret, hlocks, hout, hb0, hamb, hA, IH⟩ := id Z
  obtain ⟨hx, hb, hml, hts, hnw, hown, hini, hK, hty⟩ := id CX
  have hb := hb
  have w := mm_rowB hts hl0
  have hv := mm_rvs hl0 (by omega)
  refine mm_callS Z g (fun mc ms Q2 la H locs h1 h2 hc hk hw ha hM hl hr hS => ?_)
  obtain ⟨hpl, how, hmh, hvh, hmx⟩ := mm_mvs ha
  have hG : GoodIn mm_W (mm_wsY a) := mm_wsY_good ha
  have hR := mm_room d c k mc ms (mm_m a).2.2.2.1 hmx
  have hf : c - c2 + mc ≤ (mm_rm (d + 1) c k).cells ∧ k - k2 + ms ≤ (mm_rm (d + 1) c k).slots := by simp only [mm_rm]; omega
  have hS0 := mm_pre (l := l) hA hb0 hamb hK hnw hr hS
  obtain ⟨k0, hk0⟩ := mm_ws_get (tys := tys) hq
  rw [hcell] at hk0
  have hrc := va_recv hK hr.1 (mm_cl_at hci) hk0
  have hT : ∀ w ∈ mm_rw o (i, (14, a, b)), w ∈ mm_W ∧ ((w.onTables && w.keeps) = true ∨ ∃ ty, w = .arrayClass ty) := fun w hw => ⟨mm_row hl0 w hw, mm_goodW (mm_row hl0 w hw)⟩
  have hT2 : GoodIn mm_W (va_wsSU (mm_R o) i (mm_m a).2.1 (mm_wsY a)) := fun w hw => (List.mem_append.mp hw).elim (fun h9 => hT w h9) (fun h9 => hG w h9)
  exact vx_runSU (C := (mm_C ci).1) (hK.1 ci _ (mm_cl_at hci)).2 ⟨hx, hb, hml, hown, hts⟩ hM (va_cwSU (b % 16) hts hT2 rfl rfl rfl ⟨hv.2.2 rfl, hv.1⟩ hR) ⟨mm_blind hA _ _, hrc, hS0 _⟩ rfl (mm_take hn) hl.1 (mm_stkV hq0) (lv_room hw) hd hf
end MMD

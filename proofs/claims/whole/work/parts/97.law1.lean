/-! methods of the law: entering, steps, calls, handlers -/
section LX
variable {p : Program} {l : Launch} {e : Env} {R : Room} {s : State} {m : MethodId} {args : Array Value} {below : List Frame} {meth : Method} {cd : Code} {H : Heap} {locs : List Loc} {cells slots : Nat}
variable {cc : ByteArray} {nL : Nat} {own : String} {D : va_G} {tys : List (ClassId × FieldType)} {b0 : Nat} {Amb : State → Heap → Prop} {T : List Cond} {Q : mm_Re → Prop} {Qe : State → Prop} {H0 : Heap} {X : mm_Cl}
/-- entering a method with handlers -/
theorem lx_in (l : Launch) (D : va_G) (tys : List (ClassId × FieldType)) (b0 : Nat) (Amb : State → Heap → Prop) {y : MethodName} {ret : Option FieldType} {hh : List (Nat × Nat × Nat × Nat)} {rm : Room} {c k : Nat} {args : List Value} {h : mm_S} (hpl : plainName y.cls = true) (hle : (lg_sl args).length ≤ nL)
    (key : ∀ (p : Program) (e : Env) (s : State) (m : MethodId) (below : List Frame) (meth : Method) (cd : Code), ZZ p s m args.toArray meth cd cc nL y.cls D tys b0 Amb T → meth.sig.returnType = ret → cd.exceptionTable.toList = tableOf hh →
      mm_K p l e rm s m args.toArray below meth cd 0 0 (vx_MQ below (mm_Qc D tys b0 Q) (mm_XC D tys b0 Q) args.toArray s c k (mm_A b0)) nL D tys b0 s.heap (0, [], lv_args 0 args, h)) :
    vx_Met l y (Cond.codeWith y cc nL ret hh :: T) rm (va_Pc args (mm_B D tys b0 Amb h)) (mm_Qc D tys b0 Q) (mm_XC D tys b0 Q) c k (mm_A b0) := by
  refine vx_ofWH (cc := cc) (maxL := nL) (ret := ret) (hh := hh) hpl rfl ?_
  intro p e s m args' below meth cd s₁ B hml hv
  obtain ⟨rfl, hrep, hK, hnw, hb0, hamb⟩ := hv
  have hts0 := atoms_spec (ws := Cond.codeWith y cc nL ret hh :: T) B.pre
  have hts : ∀ w ∈ T, w.before args.toArray s = true := fun w hw => hts0 w (List.mem_cons_of_mem _ hw)
  have htb := vx_table (x := y) B (hts0 _ List.mem_cons_self)
  rw [lg_entry_eq]
  exact key p e s m below meth cd ⟨B.exec, B.bytes, hml, hts, hnw, findClass_of_methodNamed B.named, hK, B.notSynchronized, hb0, hamb⟩ B.returns htb _ s.heap [] (lv_entry args hle) hrep va_S.rf
/-- what holds of a row of a code of the law -/
def lx_eok (cc : ByteArray) (nL : Nat) (e : mm_E) : Bool := decide (decode cc e.1 = .ok (e.2.1, mm_len e.2.1 e.2.2.2)) && mm_lk 14 nL false e.2.1 e.2.2.1 e.2.2.2
theorem lx_cx (Z : ZZ p s m args meth cd cc nL "GiantStairsLaw" D tys b0 Amb T) (hT : ∀ w ∈ mm_W, w ∈ T) (hty : tys.map (fun q => q.2) = mm_tyl) : mm_Cx p s m args meth cd cc nL 14 false D tys := by
  obtain ⟨hx, hb, hml, hts, hnw, hown, hK, hlk, hb0, hamb⟩ := Z
  exact ⟨hx, hb, hml, fun w hw => hts w (hT w hw), hnw, hown, fun z => absurd z (by decide), hK, hty⟩
/-- steps without a condition -/
theorem lx_adv (CX : mm_Cx p s m args meth cd cc nL 14 false D tys) {K : List mm_E} (hK : K.all (lx_eok cc nL) = true) : ∀ (n : Nat) {F F2 : mm_F}, mm_adv K n F = some F2 → mm_K p l e R s m args below meth cd cells slots Qe nL D tys b0 H0 F2 → mm_K p l e R s m args below meth cd cells slots Qe nL D tys b0 H0 F
  | 0, F, F2, h, g => by
    cases h
    exact g
  | n + 1, (pc, st, ls, h), F2, e, g => by
    unfold mm_adv at e
    dsimp only at e
    split at e
    · next ins a b hf =>
      split at e
      · next F3 hs =>
        have h9 := List.all_eq_true.mp hK _ (mm_find_in hf)
        simp only [lx_eok, Bool.and_eq_true, decide_eq_true_eq] at h9
        exact mm_step CX ins a b pc st ls h _ hs (fun x z => by cases z) h9.1 h9.2 (lx_adv CX hK n e g)
      · cases e
    · cases e
/-- a step with a condition -/
theorem lx_p (CX : mm_Cx p s m args meth cd cc nL 14 false D tys) {K : List mm_E} (hK : K.all (lx_eok cc nL) = true) {ins : Instr} {a b pc : Nat} {st : List Value} {ls : mm_L} {h : mm_S} {P : Prop} {F2 : mm_F} (hf : mm_find K pc = some (ins, a, b)) (hs : mm_st ins a b pc st ls h = some (some P, F2)) (hp : P)
    (g : mm_K p l e R s m args below meth cd cells slots Qe nL D tys b0 H0 F2) : mm_K p l e R s m args below meth cd cells slots Qe nL D tys b0 H0 (pc, st, ls, h) := by
  have h9 := List.all_eq_true.mp hK _ (mm_find_in hf)
  simp only [lx_eok, Bool.and_eq_true, decide_eq_true_eq] at h9
  exact mm_step CX ins a b pc st ls h _ hs (fun x z => by cases z; exact hp) h9.1 h9.2 g
theorem lx_to (CX : mm_Cx p s m args meth cd cc nL 14 false D tys) {K : List mm_E} (hK : K.all (lx_eok cc nL) = true) {a b pc : Nat} {st : List Value} {ls : mm_L} {h : mm_S} {off : Int} (tgt : Nat) (hf : mm_find K pc = some (.goto off, a, b)) (ht : (pc : Int) + off = (tgt : Int))
    (g : mm_K p l e R s m args below meth cd cells slots Qe nL D tys b0 H0 (tgt, st, ls, h)) : mm_K p l e R s m args below meth cd cells slots Qe nL D tys b0 H0 (pc, st, ls, h) := by
  have e9 : mm_to pc off = tgt := by
    unfold mm_to
    omega
  refine lx_p CX hK hf rfl (by omega) ?_
  rw [e9]
  exact g
theorem lx_zt (CX : mm_Cx p s m args meth cd cc nL 14 false D tys) {K : List mm_E} (hK : K.all (lx_eok cc nL) = true) {a b pc : Nat} {rest : List Value} {ls : mm_L} {h : mm_S} {x : Int32} {cn : Jvm.ClassFile.Cond} {off : Int} (tgt : Nat) (hf : mm_find K pc = some (.ifCond cn off, a, b)) (ht : (pc : Int) + off = (tgt : Int)) (hc : mm_cnd cn x 0)
    (g : mm_K p l e R s m args below meth cd cells slots Qe nL D tys b0 H0 (tgt, rest, ls, h)) : mm_K p l e R s m args below meth cd cells slots Qe nL D tys b0 H0 (pc, .int x :: rest, ls, h) := by
  have e9 : mm_to pc off = tgt := by
    unfold mm_to
    omega
  refine lx_p CX hK hf rfl (by omega) ?_
  rw [mm_cm_t hc, e9]
  exact g
theorem lx_zf (CX : mm_Cx p s m args meth cd cc nL 14 false D tys) {K : List mm_E} (hK : K.all (lx_eok cc nL) = true) {a b pc : Nat} {rest : List Value} {ls : mm_L} {h : mm_S} {x : Int32} {cn : Jvm.ClassFile.Cond} {off : Int} (hf : mm_find K pc = some (.ifCond cn off, a, b)) (ht : 0 ≤ (pc : Int) + off) (hc : ¬ mm_cnd cn x 0)
    (g : mm_K p l e R s m args below meth cd cells slots Qe nL D tys b0 H0 (pc + 3, rest, ls, h)) : mm_K p l e R s m args below meth cd cells slots Qe nL D tys b0 H0 (pc, .int x :: rest, ls, h) := by
  refine lx_p CX hK hf rfl ht ?_
  rw [mm_cm_f hc]
  exact g
theorem lx_ct (CX : mm_Cx p s m args meth cd cc nL 14 false D tys) {K : List mm_E} (hK : K.all (lx_eok cc nL) = true) {a b pc : Nat} {rest : List Value} {ls : mm_L} {h : mm_S} {x z : Int32} {cn : Jvm.ClassFile.Cond} {off : Int} (tgt : Nat) (hf : mm_find K pc = some (.if_icmp cn off, a, b)) (ht : (pc : Int) + off = (tgt : Int)) (hc : mm_cnd cn x z)
    (g : mm_K p l e R s m args below meth cd cells slots Qe nL D tys b0 H0 (tgt, rest, ls, h)) : mm_K p l e R s m args below meth cd cells slots Qe nL D tys b0 H0 (pc, .int z :: .int x :: rest, ls, h) := by
  have e9 : mm_to pc off = tgt := by
    unfold mm_to
    omega
  refine lx_p CX hK hf rfl (by omega) ?_
  rw [mm_cm_t hc, e9]
  exact g
theorem lx_cf (CX : mm_Cx p s m args meth cd cc nL 14 false D tys) {K : List mm_E} (hK : K.all (lx_eok cc nL) = true) {a b pc : Nat} {rest : List Value} {ls : mm_L} {h : mm_S} {x z : Int32} {cn : Jvm.ClassFile.Cond} {off : Int} (hf : mm_find K pc = some (.if_icmp cn off, a, b)) (ht : 0 ≤ (pc : Int) + off) (hc : ¬ mm_cnd cn x z)
    (g : mm_K p l e R s m args below meth cd cells slots Qe nL D tys b0 H0 (pc + 3, rest, ls, h)) : mm_K p l e R s m args below meth cd cells slots Qe nL D tys b0 H0 (pc, .int z :: .int x :: rest, ls, h) := by
  refine lx_p CX hK hf rfl ht ?_
  rw [mm_cm_f hc]
  exact g
/-- behind a call: it goes on, or what was thrown stands over this frame -/
theorem lx_called {mc ms pc : Nat} {a : Array Value} {la : Array Slot} {ls : mm_L} {st0 rest : List Value} {Q2 : mm_Re → Prop}
    (hr : vx_Run p l e R s m args below meth cd H locs cells slots mc ms (F0 m pc la st0) rest (mm_Qc D tys b0 Q2 a) (mm_XC D tys b0 Q2) (mm_A b0))
    (hl : lv_has la nL ls) (hS : va_S (mm_A b0) s.heap H locs)
    (kk : ∀ (v : Option Value) (h2 : mm_S), Q2 (.inl v, h2) → mm_K p l e R s m args below meth cd (cells + mc) (slots + ms) Qe nL D tys b0 s.heap (pc + 3, v.toList ++ rest, ls, h2))
    (kx : ∀ (E : String) (h2 : mm_S) (ce : Cell) (q : Addr) (H1 : Heap) (locs1 : List Loc), Q2 (.inr E, h2) → mm_rep D tys b0 h2 H1 → va_S (mm_A b0) s.heap H1 locs1 → H1[q]? = some ce → ce.vm = .none → s.vm.findClass E = some ce.cls → vx_W p l e R s m args below meth cd H1 locs1 (cells + mc) (slots + ms) Qe (F0 m pc la rest) q) :
    W p l e R s m args below meth cd H locs cells slots Qe (F0 m pc la st0) := by
  intro T hT X
  rcases hr T hT X with ⟨v, st₀, t, T', L, h0, X', hL, e1, e2, ⟨⟨v', h2, hv, hq, hrep⟩, hF⟩, st⟩ | ⟨q, st₀, t, T', L, E, ce, h0, X', hL, e1, e2, ⟨⟨h2, hq, hrep⟩, hF⟩, hce, hcv, hcl, st⟩
  · cases hv
    obtain ⟨-, -, k3⟩ := vx_keep h0 e1 hS (fun _ _ h => h) (fun _ h => h) hL hF
    obtain ⟨t2, a1, b1⟩ := kk v h2 hq la T'.heap (locs ++ L) hl (by rw [e1]; exact hrep) k3 T' rfl X'
    exact ⟨t2, st t2 a1, b1⟩
  · obtain ⟨-, -, k3⟩ := vx_keep h0 e1 hS (fun _ _ h => h) (fun _ h => h) hL hF
    obtain ⟨t2, a1, b1⟩ := kx E h2 ce q T'.heap (locs ++ L) hq (by rw [e1]; exact hrep) k3 (by rw [e1]; exact hce) hcv hcl T' rfl X'
    exact ⟨t2, st.trans a1, b1⟩
/-- a method of class or reference is called -/
theorem lx_V (Z : ZZ p s m args meth cd cc nL own D tys b0 Amb T) (hA : mm_AL l D tys b0 Amb) (hT : ∀ w ∈ mm_W, w ∈ T) (hs : ∀ (d y c k : Nat) (args : List Value) (h : mm_S) (Q : mm_Re → Prop), mm_Run X d y c k args h Q → mm_Met l D tys b0 Amb d y c k args h Q)
    {a d mc ms n idx pc q ci : Nat} {fs : List Value} {h : mm_S} {As rest : List Value} {la : Array Slot} (g : mm_Run X d a mc ms (.ref q :: As) h Q) (ha : a < 266) (h1 : Cond.methodLink own idx (mm_m a).2.1 ∈ T) (h2 : Cond.instanceMethod (mm_m a).2.1 ∈ T) (h4 : Cond.selects (mm_m a).2.1.cls (mm_m a).2.1 (mm_m a).2.1 ∈ T) (h3 : Cond.initialized (mm_m a).2.1.cls ∈ T)
    (hp : (parseMethodDescriptor (mm_m a).2.1.desc).map (fun d => d.parameters.length) = some n) (hq : q ∈ h.1) (hcell : h.2 q = .inr (ci, fs)) (hci : ci < 8) (hcls : (mm_C ci).1 = (mm_m a).2.1.cls) (hR : d + 10 ≤ R.frames ∧ 64 * d + 320 ≤ R.locals)
    (hf : cells + mc ≤ R.cells ∧ slots + ms ≤ R.slots) (hn : As.length = n) (hdg : decode cc pc = .ok (.invokevirtual idx, 3)) (hw : mm_wd rest ≤ 8) (hl : la.size = nL) (hr : mm_rep D tys b0 h H) (hS : va_S (mm_A b0) s.heap H locs) :
    vx_Run p l e R s m args below meth cd H locs cells slots mc ms (F0 m pc la (As.reverse ++ .ref q :: rest)) rest (mm_Qc D tys b0 Q (Value.ref q :: As).toArray) (mm_XC D tys b0 Q) (mm_A b0) := by
  obtain ⟨hpl, how, hmh, hvh, hmx⟩ := mm_mvs ha
  obtain ⟨k0, hk0⟩ := mm_ws_get (tys := tys) hq
  rw [hcell] at hk0
  have hrc := va_recv Z.2.2.2.2.2.2.1 hr.1 (mm_cl_at hci) hk0
  rw [hcls] at hrc
  have hG : GoodIn T (mm_wsY a) := fun w hw => ⟨hT w (mm_wsY_good ha w hw).1, (mm_wsY_good ha w hw).2⟩
  refine zV (rm := mm_rm d mc ms) Z hA (hs _ _ _ _ _ _ _ g) hG h1 h2 h4 h3 ⟨hmh, hvh, hp⟩ rfl rfl ?_ hrc hf hn hdg hw hl hr hS
  have hm := mm_room d 0 0 mc ms _ hmx
  exact ⟨Nat.le_trans hm.1 (show d + 1 + 9 ≤ R.frames from hR.1), Nat.le_trans hm.2 (show 64 * (d + 1) + 256 ≤ R.locals from hR.2)⟩
/-- a method of the law with handlers is called -/
theorem lx_S (Z : ZZ p s m args meth cd cc nL own D tys b0 Amb T) (hA : mm_AL l D tys b0 Amb) {y : MethodName} {bytes : ByteArray} {maxL mc ms n idx pc : Nat} {ret : Option FieldType} {hh : List (Nat × Nat × Nat × Nat)} {ws' : List Cond} {rm : Room} {h : mm_S} {As rest : List Value} {la : Array Slot}
    (hM : vx_Met l y (Cond.codeWith y bytes maxL ret hh :: ws') rm (va_Pc As (mm_B D tys b0 Amb h)) (mm_Qc D tys b0 Q) (mm_XC D tys b0 Q) mc ms (mm_A b0)) (hG : GoodIn T (va_wsS own idx y (Cond.codeWith y bytes maxL ret hh :: ws')))
    (hd : y.cls ≠ "java/lang/invoke/MethodHandle" ∧ y.cls ≠ "java/lang/invoke/VarHandle" ∧ (parseMethodDescriptor y.desc).map (fun d => d.parameters.length) = some n) (hrc : rm.cells = mc) (hrs : rm.slots = ms) (hR : rm.frames + 1 ≤ R.frames ∧ 8 + (maxL + 11) + rm.locals ≤ R.locals)
    (hf : cells + mc ≤ R.cells ∧ slots + ms ≤ R.slots) (hn : As.length = n) (hdg : decode cc pc = .ok (.invokestatic idx, 3)) (hw : mm_wd rest ≤ 8) (hl : la.size = nL) (hr : mm_rep D tys b0 h H) (hS : va_S (mm_A b0) s.heap H locs) :
    vx_Run p l e R s m args below meth cd H locs cells slots mc ms (F0 m pc la (As.reverse ++ rest)) rest (mm_Qc D tys b0 Q As.toArray) (mm_XC D tys b0 Q) (mm_A b0) := by
  obtain ⟨hx, hb, hml, hts, hnw, hown, hK, hlk, hb0, hamb⟩ := Z
  exact vx_runSX ⟨hx, hb, hml, hown, hts⟩ hM (vx_cwSW n hts hG rfl hrc hrs hd hR) ⟨mm_blind hA _ _, mm_pre hA hb0 hamb hK hnw hr hS As⟩ rfl hn hl rfl (lv_room hw) hdg hf
end LX
/-! runs by plain steps, anywhere -/
/-- from F the law's code comes to F2 by steps that ask nothing of the machine -/
def lx_R (cc : ByteArray) (nL : Nat) (F F2 : mm_F) : Prop := ∀ (p : Program) (l : Launch) (e : Env) (R : Room) (s : State) (m : MethodId) (args : Array Value) (below : List Frame) (meth : Method) (cd : Code) (cells slots : Nat) (Qe : State → Prop) (D : va_G) (tys : List (ClassId × FieldType)) (b0 : Nat) (H0 : Heap),
  mm_Cx p s m args meth cd cc nL 14 false D tys → mm_K p l e R s m args below meth cd cells slots Qe nL D tys b0 H0 F2 → mm_K p l e R s m args below meth cd cells slots Qe nL D tys b0 H0 F
section LR
variable {cc : ByteArray} {nL : Nat} {K : List mm_E} {F F2 F3 : mm_F} {a b pc : Nat} {st rest : List Value} {ls : mm_L} {h : mm_S}
theorem lr_rf : lx_R cc nL F F := fun _ _ _ _ _ _ _ _ _ _ _ _ _ _ _ _ _ _ g => g
theorem lr_tr (h1 : lx_R cc nL F F2) (h2 : lx_R cc nL F2 F3) : lx_R cc nL F F3 := fun p l e R s m args below meth cd cells slots Qe D tys b0 H0 C g => h1 p l e R s m args below meth cd cells slots Qe D tys b0 H0 C (h2 p l e R s m args below meth cd cells slots Qe D tys b0 H0 C g)
theorem lr_adv (hK : K.all (lx_eok cc nL) = true) (n : Nat) (e : mm_adv K n F = some F2) (g : lx_R cc nL F2 F3) : lx_R cc nL F F3 :=
  lr_tr (fun _ _ _ _ _ _ _ _ _ _ _ _ _ _ _ _ _ C g => lx_adv C hK n e g) g
theorem lr_p (hK : K.all (lx_eok cc nL) = true) {ins : Instr} {P : Prop} (hf : mm_find K pc = some (ins, a, b)) (hs : mm_st ins a b pc st ls h = some (some P, F2)) (hp : P) (g : lx_R cc nL F2 F3) : lx_R cc nL (pc, st, ls, h) F3 :=
  lr_tr (fun _ _ _ _ _ _ _ _ _ _ _ _ _ _ _ _ _ C g => lx_p C hK hf hs hp g) g
theorem lr_to (hK : K.all (lx_eok cc nL) = true) {off : Int} (tgt : Nat) (hf : mm_find K pc = some (.goto off, a, b)) (ht : (pc : Int) + off = (tgt : Int)) (g : lx_R cc nL (tgt, st, ls, h) F3) : lx_R cc nL (pc, st, ls, h) F3 :=
  lr_tr (fun _ _ _ _ _ _ _ _ _ _ _ _ _ _ _ _ _ C g => lx_to C hK tgt hf ht g) g
theorem lr_zt (hK : K.all (lx_eok cc nL) = true) {x : Int32} {cn : Jvm.ClassFile.Cond} {off : Int} (tgt : Nat) (hf : mm_find K pc = some (.ifCond cn off, a, b)) (ht : (pc : Int) + off = (tgt : Int)) (hc : mm_cnd cn x 0) (g : lx_R cc nL (tgt, rest, ls, h) F3) : lx_R cc nL (pc, .int x :: rest, ls, h) F3 :=
  lr_tr (fun _ _ _ _ _ _ _ _ _ _ _ _ _ _ _ _ _ C g => lx_zt C hK tgt hf ht hc g) g
theorem lr_zf (hK : K.all (lx_eok cc nL) = true) {x : Int32} {cn : Jvm.ClassFile.Cond} {off : Int} (hf : mm_find K pc = some (.ifCond cn off, a, b)) (ht : 0 ≤ (pc : Int) + off) (hc : ¬ mm_cnd cn x 0) (g : lx_R cc nL (pc + 3, rest, ls, h) F3) : lx_R cc nL (pc, .int x :: rest, ls, h) F3 :=
  lr_tr (fun _ _ _ _ _ _ _ _ _ _ _ _ _ _ _ _ _ C g => lx_zf C hK hf ht hc g) g
theorem lr_ct (hK : K.all (lx_eok cc nL) = true) {x z : Int32} {cn : Jvm.ClassFile.Cond} {off : Int} (tgt : Nat) (hf : mm_find K pc = some (.if_icmp cn off, a, b)) (ht : (pc : Int) + off = (tgt : Int)) (hc : mm_cnd cn x z) (g : lx_R cc nL (tgt, rest, ls, h) F3) : lx_R cc nL (pc, .int z :: .int x :: rest, ls, h) F3 :=
  lr_tr (fun _ _ _ _ _ _ _ _ _ _ _ _ _ _ _ _ _ C g => lx_ct C hK tgt hf ht hc g) g
theorem lr_cf (hK : K.all (lx_eok cc nL) = true) {x z : Int32} {cn : Jvm.ClassFile.Cond} {off : Int} (hf : mm_find K pc = some (.if_icmp cn off, a, b)) (ht : 0 ≤ (pc : Int) + off) (hc : ¬ mm_cnd cn x z) (g : lx_R cc nL (pc + 3, rest, ls, h) F3) : lx_R cc nL (pc, .int z :: .int x :: rest, ls, h) F3 :=
  lr_tr (fun _ _ _ _ _ _ _ _ _ _ _ _ _ _ _ _ _ C g => lx_cf C hK hf ht hc g) g
/-- one long, one double is written -/
theorem lr_sL (hK : K.all (lx_eok cc nL) = true) {o n : Nat} {v : Int64} {g9 : Nat → Int64} (hf : mm_find K pc = some (.lastore, a, b)) (ho : o ∈ h.1) (hc : h.2 o = .inl (2, n + 1, .inr (.inl g9))) (g : lx_R cc nL (pc + 1, rest, ls, mm_put h o (.inl (2, n + 1, .inr (.inl (vp_updL g9 0 v))))) F3) : lx_R cc nL (pc, .long v :: .int (ki 0) :: .ref o :: rest, ls, h) F3 := by
  refine lr_p hK hf (P := o ∈ h.1 ∧ 2 = 2 ∧ vp_in (ki 0) (n + 1)) ?_ ⟨ho, rfl, fun z => z.elim (by decide) (fun z => absurd z (by show ¬ n + 1 ≤ 0; omega))⟩ g
  simp only [mm_st, mm_arL, hc]
  rfl
theorem lr_sD (hK : K.all (lx_eok cc nL) = true) {o n : Nat} {v : UInt64} {g9 : Nat → UInt64} (hf : mm_find K pc = some (.dastore, a, b)) (ho : o ∈ h.1) (hc : h.2 o = .inl (3, n + 1, .inr (.inr (.inr (.inl g9))))) (g : lx_R cc nL (pc + 1, rest, ls, mm_put h o (.inl (3, n + 1, .inr (.inr (.inr (.inl (vf_upd g9 0 v))))))) F3) : lx_R cc nL (pc, .double v :: .int (ki 0) :: .ref o :: rest, ls, h) F3 := by
  refine lr_p hK hf (P := o ∈ h.1 ∧ 3 = 3 ∧ vp_in (ki 0) (n + 1)) ?_ ⟨ho, rfl, fun z => z.elim (by decide) (fun z => absurd z (by show ¬ n + 1 ≤ 0; omega))⟩ g
  simp only [mm_st, mm_arD, hc]
  rfl
end LR
/-! the law's small methods -/
def WP_ (Q : Int32 → mm_S → Prop) : mm_Re → Prop := fun r => match r with
  | (.inl (some (.int v)), h1) => Q v h1
  | _ => False
section LW
variable {l : Launch} {D : va_G} {tys : List (ClassId × FieldType)} {b0 : Nat} {T : List Cond} {X : mm_Cl} {cc : ByteArray} {nL : Nat}
/-- a small method: its guarded call, what follows, its handlers -/
theorem lw_gen (hty : tys.map (fun q => q.2) = mm_tyl) (hl9 : l.stackTraces = false) (hT : ∀ w ∈ mm_W, w ∈ T) (hs : ∀ (d y c k : Nat) (args : List Value) (h : mm_S) (Q : mm_Re → Prop), mm_Run X d y c k args h Q → mm_Met l D tys b0 (Am_ D b0) d y c k args h Q)
    {y : MethodName} {hh : List (Nat × Nat × Nat × Nat)} {ex : List String} {args As : List Value} {ls : mm_L} {h : mm_S} {a d mc ms n idx pc1 L q o : Nat} {fs : List Value} {Q : Int32 → mm_S → Prop} {Q1 : mm_Re → Prop}
    (hy : y.cls = "GiantStairsLaw") (hle : (lg_sl args).length ≤ nL) (hadv : lx_R cc nL (0, [], lv_args 0 args, h) (pc1, As.reverse ++ [.ref q, .int (ki 0), .ref o], ls, h))
    (hq : q ∈ h.1) (hcell : h.2 q = .inr (5, fs)) (ha : a < 266) (hcls : (mm_m a).2.1.cls = RX5) (h1 : Cond.methodLink "GiantStairsLaw" idx (mm_m a).2.1 ∈ T) (h2 : Cond.instanceMethod (mm_m a).2.1 ∈ T) (h4 : Cond.selects (mm_m a).2.1.cls (mm_m a).2.1 (mm_m a).2.1 ∈ T) (h3 : Cond.initialized (mm_m a).2.1.cls ∈ T)
    (hp : (parseMethodDescriptor (mm_m a).2.1.desc).map (fun d => d.parameters.length) = some n) (hn : As.length = n) (hdg : decode cc pc1 = .ok (.invokevirtual idx, 3))
    (hst : ∀ (v : Option Value) (h9 : mm_S), Q1 (.inl v, h9) → ∃ (h8 : mm_S) (ls8 : mm_L), Q (nI 0) h8 ∧ lx_R cc nL (pc1 + 3, v.toList ++ [.int (ki 0), .ref o], ls, h9) (L, [.int (nI 0)], ls8, h8)) (f5 : decode cc L = .ok (.ireturn, 1))
    (hthr : ∀ (E : String) (h9 : mm_S), Q1 (.inr E, h9) → ∃ i, ex[i]? = some E ∧ Q (nI (i + 1)) h9)
    (hex : ∀ (i : Nat) (E : String), ex[i]? = some E → ∃ (pre suf : List (Nat × Nat × Nat × Nat)) (z : Nat × Nat × Nat × Nat) (pr : Nat), hh = pre ++ z :: suf ∧ (∀ z2 ∈ pre, z2.2.2.2 ≠ 0 ∧ ∃ nm : String, Cond.classLink "GiantStairsLaw" z2.2.2.2 nm ∈ T ∧ (E, nm) ∈ am_P) ∧ (z.1 ≤ pc1 ∧ pc1 < z.2.1) ∧ z.2.2.2 ≠ 0 ∧ Cond.classLink "GiantStairsLaw" z.2.2.2 E ∈ T ∧ Cond.castable E E ∈ am_B ∧
      (∀ (q9 : Nat) (h9 : mm_S), ∃ ls2, lx_R cc nL (z.2.2.1, [.ref q9], ls, h9) (pr, [.int (nI (i + 1))], ls2, h9)) ∧ decode cc pr = .ok (.ireturn, 1))
    (g : mm_Run X d a mc ms (.ref q :: As) h Q1) :
    vx_Met l y (Cond.codeWith y cc nL (some .int) hh :: T) (mm_rm (d + 1) mc ms) (va_Pc args (mm_B D tys b0 (Am_ D b0) h)) (mm_Qc D tys b0 (WP_ Q)) (mm_XC D tys b0 (WP_ Q)) mc ms (mm_A b0) := by
  refine lx_in l D tys b0 (Am_ D b0) (by rw [hy]; decide) hle fun p e s m below meth cd Z hret htb => ?_
  rw [hy] at Z
  have hA := am_AL (l := l) (D := D) (tys := tys) (b0 := b0) hl9
  have CX := lx_cx Z hT hty
  refine hadv _ _ _ _ _ _ _ _ _ _ _ _ _ _ _ _ _ CX ?_
  intro la H locs hl hr hS
  obtain ⟨hx, hb, hml, hts, hnw, hown, hK9, hlk, hb0, hamb⟩ := id Z
  refine lx_called (nL := nL) (lx_V (n := n) Z hA hT hs g ha h1 h2 h4 h3 hp hq hcell (by decide) hcls.symm (by simp only [mm_rm]; omega) (by simp only [mm_rm]; omega) hn hdg (Nat.le_of_ble_eq_true rfl) hl.1 hr hS) hl hS (fun v h9 hq9 => ?_) (fun E h9 ce q9 H1 locs1 hq9 hr1 hS1 hce hcv hcl => ?_)
  · obtain ⟨h8, ls8, k3, k4⟩ := hst v h9 hq9
    refine k4 _ _ _ _ _ _ _ _ _ _ _ _ _ _ _ _ _ CX ?_
    intro la2 H2 locs2 hl2 hr2 hS2
    refine W.widen (k := mc) (n := ms) (by omega) (by omega) (vx_ret ?_)
    exact W.zret hx hb hret rfl (fun t ht hW => ⟨⟨_, _, rfl, k3, by rw [ht]; exact hr2⟩, hS2.F ht⟩) hS2.2.2 f5 (hlocks := hlk)
  · obtain ⟨i, hi, hq2⟩ := hthr E h9 hq9
    obtain ⟨pre, suf, z, pr, e1, e2, e4, e5, e6, e7, e8, e9⟩ := hex i E hi
    have hcast : (Cond.castable E E).before args.toArray s = true := va_Nw.use rfl (hamb.2.2.2.2.2.2.2.2.1 _ e7)
    obtain ⟨ls2, e8⟩ := e8 q9 h9
    refine vx_catch hown (tableOf pre) ⟨z.1, z.2.1, z.2.2.1, z.2.2.2⟩ (tableOf suf) ?_ (fun z2 hz2 => ?_) ?_ e5 (hts _ e6) hcast hce hcv hcl ?_
    · rw [htb, e1]
      unfold tableOf
      rw [List.map_append, List.map_cons]
    · obtain ⟨z3, hz3, rfl⟩ := List.mem_map.mp hz2
      obtain ⟨k1, nm, k2, k3⟩ := e2 z3 hz3
      exact .inr ⟨k1, nm, hts _ k2, hamb.2.2.2.2.2.2.2.2.2.1 _ k3⟩
    · simp [covers, e4.1, e4.2]
    · refine e8 _ _ _ _ _ _ _ _ _ _ _ _ _ _ _ _ _ CX ?_ la H1 locs1 hl hr1 hS1
      intro la2 H2 locs2 hl2 hr2 hS2
      refine W.widen (k := mc) (n := ms) (by omega) (by omega) (vx_ret ?_)
      exact W.zret hx hb hret rfl (fun t ht hW => ⟨⟨_, _, rfl, hq2, by rw [ht]; exact hr2⟩, hS2.F ht⟩) hS2.2.2 e9 (hlocks := hlk)
end LW

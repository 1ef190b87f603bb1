/-- where a walk stands: the machine, the code, the locals' number, the words, the class that owns the code -/
def mm_Cx (p : Program) (s : State) (m : MethodId) (args : Array Value) (meth : Method) (c : Code) (cc : ByteArray) (nL o : Nat) (ini : Bool) (D : va_G) (tys : List (ClassId × FieldType)) : Prop :=
  p.tables.exec = Jvm.exec ∧ c.code = cc ∧ c.maxLocals = nL ∧ (∀ w ∈ mm_W, w.before args s = true) ∧ (∀ w ∈ mm_N, va_Nw w s) ∧ s.vm.findClass (mm_R o) = some m.cls ∧ (ini = true → meth.name = "<init>") ∧ va_K D mm_cl tys s ∧ tys.map (fun q => q.2) = mm_tyl
section MMS
variable {p : Program} {l : Launch} {e : Env} {R : Room} {s : State} {m : MethodId} {args : Array Value} {below : List Frame} {meth : Method} {c : Code} {H : Heap} {locs : List Loc} {cells slots : Nat} {Q : State → Prop}
variable {cc : ByteArray} {nL o : Nat} {ini : Bool} {D : va_G} {tys : List (ClassId × FieldType)} {b0 : Nat} {H0 : Heap}
/-- going on from a frame of the little machine -/
def mm_K (p : Program) (l : Launch) (e : Env) (R : Room) (s : State) (m : MethodId) (args : Array Value) (below : List Frame) (meth : Method) (c : Code) (cells slots : Nat) (Q : State → Prop) (nL : Nat) (D : va_G) (tys : List (ClassId × FieldType)) (b0 : Nat) (H0 : Heap) (F : mm_F) : Prop :=
  ∀ (la : Array Slot) (H : Heap) (locs : List Loc), lv_has la nL F.2.2.1 → mm_rep D tys b0 F.2.2.2 H → va_S (mm_A b0) H0 H locs → W p l e R s m args below meth c H locs cells slots Q (F0 m F.1 la F.2.1)
def mm_G (p : Program) (l : Launch) (e : Env) (R : Room) (s : State) (m : MethodId) (args : Array Value) (below : List Frame) (meth : Method) (c : Code) (cells slots : Nat) (Q : State → Prop) (cc : ByteArray) (nL o : Nat) (ini : Bool) (D : va_G) (tys : List (ClassId × FieldType)) (b0 : Nat) (H0 : Heap) (ins : Instr) : Prop :=
  ∀ (a b pc : Nat) (st : List Value) (ls : mm_L) (h : mm_S) (r : Option Prop × mm_F), mm_st ins a b pc st ls h = some r → (∀ x, r.1 = some x → x) → decode cc pc = .ok (ins, mm_len ins b) → mm_lk o nL ini ins a b = true →
    mm_K p l e R s m args below meth c cells slots Q nL D tys b0 H0 r.2 → mm_K p l e R s m args below meth c cells slots Q nL D tys b0 H0 (pc, st, ls, h)
theorem mm_s_iconst (C : mm_Cx p s m args meth c cc nL o ini D tys) (n : Int) : mm_G p l e R s m args below meth c cells slots Q cc nL o ini D tys b0 H0 (.iconst n) := by
  intro a b pc st ls h r h1 hp hd hk kk la H locs hl hr hS
  obtain ⟨hx, hb, hml, hts, hnw, hown, hini, hK, hty⟩ := C
  simp only [mm_st] at h1
  cases h1
  exact lv_iconst hx hb hd rfl (kk la H locs hl hr hS)
theorem mm_s_bipush (C : mm_Cx p s m args meth c cc nL o ini D tys) (n : Int) : mm_G p l e R s m args below meth c cells slots Q cc nL o ini D tys b0 H0 (.bipush n) := by
  intro a b pc st ls h r h1 hp hd hk kk la H locs hl hr hS
  obtain ⟨hx, hb, hml, hts, hnw, hown, hini, hK, hty⟩ := C
  simp only [mm_st] at h1
  cases h1
  exact lv_bipush hx hb hd rfl (kk la H locs hl hr hS)
theorem mm_s_sipush (C : mm_Cx p s m args meth c cc nL o ini D tys) (n : Int) : mm_G p l e R s m args below meth c cells slots Q cc nL o ini D tys b0 H0 (.sipush n) := by
  intro a b pc st ls h r h1 hp hd hk kk la H locs hl hr hS
  obtain ⟨hx, hb, hml, hts, hnw, hown, hini, hK, hty⟩ := C
  simp only [mm_st] at h1
  cases h1
  exact lv_sipush hx hb hd rfl (kk la H locs hl hr hS)
theorem mm_s_lconst (C : mm_Cx p s m args meth c cc nL o ini D tys) (n : Fin 2) : mm_G p l e R s m args below meth c cells slots Q cc nL o ini D tys b0 H0 (.lconst n) := by
  intro a b pc st ls h r h1 hp hd hk kk la H locs hl hr hS
  obtain ⟨hx, hb, hml, hts, hnw, hown, hini, hK, hty⟩ := C
  simp only [mm_st] at h1
  cases h1
  exact lv_lconst hx hb hd rfl (kk la H locs hl hr hS)
theorem mm_s_ldc (C : mm_Cx p s m args meth c cc nL o ini D tys) (i : Nat) : mm_G p l e R s m args below meth c cells slots Q cc nL o ini D tys b0 H0 (.ldc i) := by
  intro a b pc st ls h r h1 hp hd hk kk la H locs hl hr hS
  obtain ⟨hx, hb, hml, hts, hnw, hown, hini, hK, hty⟩ := C
  simp only [mm_st] at h1
  split at h1
  · next hb11 =>
    cases h1
    subst hb11
    simp only [mm_lk, Bool.or_eq_true, decide_eq_true_eq, ne_eq, not_true_eq_false, decide_false, Bool.false_eq_true, or_false] at hk
    exact lv_ldc hx hb hown (hts _ (mm_row hk _ List.mem_cons_self)) hd (kk la H locs hl hr hS)
  · cases h1
theorem mm_s_ldc_w (C : mm_Cx p s m args meth c cc nL o ini D tys) (i : Nat) : mm_G p l e R s m args below meth c cells slots Q cc nL o ini D tys b0 H0 (.ldc_w i) := by
  intro a b pc st ls h r h1 hp hd hk kk la H locs hl hr hS
  obtain ⟨hx, hb, hml, hts, hnw, hown, hini, hK, hty⟩ := C
  simp only [mm_st] at h1
  split at h1
  · next hb11 =>
    cases h1
    subst hb11
    simp only [mm_lk, Bool.or_eq_true, decide_eq_true_eq, ne_eq, not_true_eq_false, decide_false, Bool.false_eq_true, or_false] at hk
    exact lv_ldcw hx hb hown (hts _ (mm_row hk _ List.mem_cons_self)) hd (kk la H locs hl hr hS)
  · cases h1
theorem mm_s_ldc2_w (C : mm_Cx p s m args meth c cc nL o ini D tys) (i : Nat) : mm_G p l e R s m args below meth c cells slots Q cc nL o ini D tys b0 H0 (.ldc2_w i) := by
  intro a b pc st ls h r h1 hp hd hk kk la H locs hl hr hS
  obtain ⟨hx, hb, hml, hts, hnw, hown, hini, hK, hty⟩ := C
  simp only [mm_st] at h1
  split at h1
  · next hb11 =>
    cases h1
    subst hb11
    simp only [mm_lk, decide_eq_true_eq] at hk
    exact lv_ldc2 hx hb hown (hts _ (mm_row hk _ List.mem_cons_self)) hd (kk la H locs hl hr hS)
  · cases h1
theorem mm_s_iload (C : mm_Cx p s m args meth c cc nL o ini D tys) (i : Nat) : mm_G p l e R s m args below meth c cells slots Q cc nL o ini D tys b0 H0 (.iload i) := by
  intro a b pc st ls h r h1 hp hd hk kk la H locs hl hr hS
  obtain ⟨hx, hb, hml, hts, hnw, hown, hini, hK, hty⟩ := C
  simp only [mm_st] at h1
  obtain ⟨x, hg, h1⟩ := mm_ild_s h1
  cases h1
  exact lv_iload hx hb hd (mm_at hl hg) (kk la H locs hl hr hS)
theorem mm_s_iload_n (C : mm_Cx p s m args meth c cc nL o ini D tys) (i : Fin 4) : mm_G p l e R s m args below meth c cells slots Q cc nL o ini D tys b0 H0 (.iload_n i) := by
  intro a b pc st ls h r h1 hp hd hk kk la H locs hl hr hS
  obtain ⟨hx, hb, hml, hts, hnw, hown, hini, hK, hty⟩ := C
  simp only [mm_st] at h1
  obtain ⟨x, hg, h1⟩ := mm_ild_s h1
  cases h1
  exact lv_iload_n hx hb hd rfl (mm_at hl hg) (kk la H locs hl hr hS)
theorem mm_s_lload (C : mm_Cx p s m args meth c cc nL o ini D tys) (i : Nat) : mm_G p l e R s m args below meth c cells slots Q cc nL o ini D tys b0 H0 (.lload i) := by
  intro a b pc st ls h r h1 hp hd hk kk la H locs hl hr hS
  obtain ⟨hx, hb, hml, hts, hnw, hown, hini, hK, hty⟩ := C
  simp only [mm_st] at h1
  obtain ⟨x, hg, h1⟩ := mm_lld_s h1
  cases h1
  exact lv_lload hx hb hd (mm_at hl hg) (kk la H locs hl hr hS)
theorem mm_s_lload_n (C : mm_Cx p s m args meth c cc nL o ini D tys) (i : Fin 4) : mm_G p l e R s m args below meth c cells slots Q cc nL o ini D tys b0 H0 (.lload_n i) := by
  intro a b pc st ls h r h1 hp hd hk kk la H locs hl hr hS
  obtain ⟨hx, hb, hml, hts, hnw, hown, hini, hK, hty⟩ := C
  simp only [mm_st] at h1
  obtain ⟨x, hg, h1⟩ := mm_lld_s h1
  cases h1
  exact lv_lload_n hx hb hd rfl (mm_at hl hg) (kk la H locs hl hr hS)
theorem mm_s_aload (C : mm_Cx p s m args meth c cc nL o ini D tys) (i : Nat) : mm_G p l e R s m args below meth c cells slots Q cc nL o ini D tys b0 H0 (.aload i) := by
  intro a b pc st ls h r h1 hp hd hk kk la H locs hl hr hS
  obtain ⟨hx, hb, hml, hts, hnw, hown, hini, hK, hty⟩ := C
  simp only [mm_st] at h1
  obtain ⟨x, hg, h1⟩ := mm_ald_s h1
  cases h1
  exact lv_aload hx hb hd (mm_at hl hg) (kk la H locs hl hr hS)
theorem mm_s_aload_n (C : mm_Cx p s m args meth c cc nL o ini D tys) (i : Fin 4) : mm_G p l e R s m args below meth c cells slots Q cc nL o ini D tys b0 H0 (.aload_n i) := by
  intro a b pc st ls h r h1 hp hd hk kk la H locs hl hr hS
  obtain ⟨hx, hb, hml, hts, hnw, hown, hini, hK, hty⟩ := C
  simp only [mm_st] at h1
  obtain ⟨x, hg, h1⟩ := mm_ald_s h1
  cases h1
  exact lv_aload_n hx hb hd rfl (mm_at hl hg) (kk la H locs hl hr hS)
theorem mm_s_istore (C : mm_Cx p s m args meth c cc nL o ini D tys) (i : Nat) : mm_G p l e R s m args below meth c cells slots Q cc nL o ini D tys b0 H0 (.istore i) := by
  intro a b pc st ls h r h1 hp hd hk kk la H locs hl hr hS
  obtain ⟨hx, hb, hml, hts, hnw, hown, hini, hK, hty⟩ := C
  simp only [mm_st] at h1
  obtain ⟨x, t, rfl, h1⟩ := mm_i1_s h1
  cases h1
  simp only [mm_lk, decide_eq_true_eq] at hk
  exact lv_istore hx hb hd hl hk rfl (fun la2 hl2 => kk la2 H locs hl2 hr hS)
theorem mm_s_istore_n (C : mm_Cx p s m args meth c cc nL o ini D tys) (i : Fin 4) : mm_G p l e R s m args below meth c cells slots Q cc nL o ini D tys b0 H0 (.istore_n i) := by
  intro a b pc st ls h r h1 hp hd hk kk la H locs hl hr hS
  obtain ⟨hx, hb, hml, hts, hnw, hown, hini, hK, hty⟩ := C
  simp only [mm_st] at h1
  obtain ⟨x, t, rfl, h1⟩ := mm_i1_s h1
  cases h1
  simp only [mm_lk, decide_eq_true_eq] at hk
  exact lv_istore_n hx hb hd rfl hl hk rfl (fun la2 hl2 => kk la2 H locs hl2 hr hS)
theorem mm_s_astore (C : mm_Cx p s m args meth c cc nL o ini D tys) (i : Nat) : mm_G p l e R s m args below meth c cells slots Q cc nL o ini D tys b0 H0 (.astore i) := by
  intro a b pc st ls h r h1 hp hd hk kk la H locs hl hr hS
  obtain ⟨hx, hb, hml, hts, hnw, hown, hini, hK, hty⟩ := C
  simp only [mm_st] at h1
  obtain ⟨x, t, rfl, h1⟩ := mm_a1_s h1
  cases h1
  simp only [mm_lk, decide_eq_true_eq] at hk
  exact lv_astore hx hb hd hl hk rfl (fun la2 hl2 => kk la2 H locs hl2 hr hS)
theorem mm_s_astore_n (C : mm_Cx p s m args meth c cc nL o ini D tys) (i : Fin 4) : mm_G p l e R s m args below meth c cells slots Q cc nL o ini D tys b0 H0 (.astore_n i) := by
  intro a b pc st ls h r h1 hp hd hk kk la H locs hl hr hS
  obtain ⟨hx, hb, hml, hts, hnw, hown, hini, hK, hty⟩ := C
  simp only [mm_st] at h1
  obtain ⟨x, t, rfl, h1⟩ := mm_a1_s h1
  cases h1
  simp only [mm_lk, decide_eq_true_eq] at hk
  exact lv_astore_n hx hb hd rfl hl hk rfl (fun la2 hl2 => kk la2 H locs hl2 hr hS)
theorem mm_s_lstore (C : mm_Cx p s m args meth c cc nL o ini D tys) (i : Nat) : mm_G p l e R s m args below meth c cells slots Q cc nL o ini D tys b0 H0 (.lstore i) := by
  intro a b pc st ls h r h1 hp hd hk kk la H locs hl hr hS
  obtain ⟨hx, hb, hml, hts, hnw, hown, hini, hK, hty⟩ := C
  simp only [mm_st] at h1
  obtain ⟨x, t, rfl, h1⟩ := mm_l1_s h1
  cases h1
  simp only [mm_lk, decide_eq_true_eq] at hk
  exact lv_lstore hx hb hd hl hk rfl (fun la2 hl2 => kk la2 H locs hl2 hr hS)
theorem mm_s_lstore_n (C : mm_Cx p s m args meth c cc nL o ini D tys) (i : Fin 4) : mm_G p l e R s m args below meth c cells slots Q cc nL o ini D tys b0 H0 (.lstore_n i) := by
  intro a b pc st ls h r h1 hp hd hk kk la H locs hl hr hS
  obtain ⟨hx, hb, hml, hts, hnw, hown, hini, hK, hty⟩ := C
  simp only [mm_st] at h1
  obtain ⟨x, t, rfl, h1⟩ := mm_l1_s h1
  cases h1
  simp only [mm_lk, decide_eq_true_eq] at hk
  exact lv_lstore_n hx hb hd rfl hl hk rfl (fun la2 hl2 => kk la2 H locs hl2 hr hS)
theorem mm_s_iinc (C : mm_Cx p s m args meth c cc nL o ini D tys) (i : Nat) (n : Int) : mm_G p l e R s m args below meth c cells slots Q cc nL o ini D tys b0 H0 (.iinc i n) := by
  intro a b pc st ls h r h1 hp hd hk kk la H locs hl hr hS
  obtain ⟨hx, hb, hml, hts, hnw, hown, hini, hK, hty⟩ := C
  simp only [mm_st] at h1
  obtain ⟨x, hg, h1⟩ := mm_ild_s h1
  cases h1
  simp only [mm_lk, decide_eq_true_eq] at hk
  obtain ⟨k0, hk0⟩ := mm_ix hg
  exact lv_iinc hx hb hd hl hk0 rfl hk rfl (fun la2 hl2 => kk la2 H locs hl2 hr hS)
theorem mm_s_iadd (C : mm_Cx p s m args meth c cc nL o ini D tys) : mm_G p l e R s m args below meth c cells slots Q cc nL o ini D tys b0 H0 (.iadd) := by
  intro a b pc st ls h r h1 hp hd hk kk la H locs hl hr hS
  obtain ⟨hx, hb, hml, hts, hnw, hown, hini, hK, hty⟩ := C
  simp only [mm_st] at h1
  obtain ⟨x, y, t, rfl, h1⟩ := mm_i2_s h1
  cases h1
  exact lv_iadd hx hb hd (kk la H locs hl hr hS)
theorem mm_s_isub (C : mm_Cx p s m args meth c cc nL o ini D tys) : mm_G p l e R s m args below meth c cells slots Q cc nL o ini D tys b0 H0 (.isub) := by
  intro a b pc st ls h r h1 hp hd hk kk la H locs hl hr hS
  obtain ⟨hx, hb, hml, hts, hnw, hown, hini, hK, hty⟩ := C
  simp only [mm_st] at h1
  obtain ⟨x, y, t, rfl, h1⟩ := mm_i2_s h1
  cases h1
  exact lv_isub hx hb hd (kk la H locs hl hr hS)
theorem mm_s_imul (C : mm_Cx p s m args meth c cc nL o ini D tys) : mm_G p l e R s m args below meth c cells slots Q cc nL o ini D tys b0 H0 (.imul) := by
  intro a b pc st ls h r h1 hp hd hk kk la H locs hl hr hS
  obtain ⟨hx, hb, hml, hts, hnw, hown, hini, hK, hty⟩ := C
  simp only [mm_st] at h1
  obtain ⟨x, y, t, rfl, h1⟩ := mm_i2_s h1
  cases h1
  exact lv_imul hx hb hd (kk la H locs hl hr hS)
theorem mm_s_iand (C : mm_Cx p s m args meth c cc nL o ini D tys) : mm_G p l e R s m args below meth c cells slots Q cc nL o ini D tys b0 H0 (.iand) := by
  intro a b pc st ls h r h1 hp hd hk kk la H locs hl hr hS
  obtain ⟨hx, hb, hml, hts, hnw, hown, hini, hK, hty⟩ := C
  simp only [mm_st] at h1
  obtain ⟨x, y, t, rfl, h1⟩ := mm_i2_s h1
  cases h1
  exact lv_iand hx hb hd (kk la H locs hl hr hS)
theorem mm_s_ior (C : mm_Cx p s m args meth c cc nL o ini D tys) : mm_G p l e R s m args below meth c cells slots Q cc nL o ini D tys b0 H0 (.ior) := by
  intro a b pc st ls h r h1 hp hd hk kk la H locs hl hr hS
  obtain ⟨hx, hb, hml, hts, hnw, hown, hini, hK, hty⟩ := C
  simp only [mm_st] at h1
  obtain ⟨x, y, t, rfl, h1⟩ := mm_i2_s h1
  cases h1
  exact lv_ior hx hb hd (kk la H locs hl hr hS)
theorem mm_s_ishl (C : mm_Cx p s m args meth c cc nL o ini D tys) : mm_G p l e R s m args below meth c cells slots Q cc nL o ini D tys b0 H0 (.ishl) := by
  intro a b pc st ls h r h1 hp hd hk kk la H locs hl hr hS
  obtain ⟨hx, hb, hml, hts, hnw, hown, hini, hK, hty⟩ := C
  simp only [mm_st] at h1
  obtain ⟨x, y, t, rfl, h1⟩ := mm_i2_s h1
  cases h1
  exact lv_ishl hx hb hd (kk la H locs hl hr hS)
theorem mm_s_ishr (C : mm_Cx p s m args meth c cc nL o ini D tys) : mm_G p l e R s m args below meth c cells slots Q cc nL o ini D tys b0 H0 (.ishr) := by
  intro a b pc st ls h r h1 hp hd hk kk la H locs hl hr hS
  obtain ⟨hx, hb, hml, hts, hnw, hown, hini, hK, hty⟩ := C
  simp only [mm_st] at h1
  obtain ⟨x, y, t, rfl, h1⟩ := mm_i2_s h1
  cases h1
  exact lv_ishr hx hb hd (kk la H locs hl hr hS)
theorem mm_s_idiv (C : mm_Cx p s m args meth c cc nL o ini D tys) : mm_G p l e R s m args below meth c cells slots Q cc nL o ini D tys b0 H0 (.idiv) := by
  intro a b pc st ls h r h1 hp hd hk kk la H locs hl hr hS
  obtain ⟨hx, hb, hml, hts, hnw, hown, hini, hK, hty⟩ := C
  simp only [mm_st] at h1
  obtain ⟨x, y, t, rfl, h1⟩ := mm_i2_s h1
  cases h1
  exact lv_idiv hx hb hd (hp _ rfl) (kk la H locs hl hr hS)
theorem mm_s_irem (C : mm_Cx p s m args meth c cc nL o ini D tys) : mm_G p l e R s m args below meth c cells slots Q cc nL o ini D tys b0 H0 (.irem) := by
  intro a b pc st ls h r h1 hp hd hk kk la H locs hl hr hS
  obtain ⟨hx, hb, hml, hts, hnw, hown, hini, hK, hty⟩ := C
  simp only [mm_st] at h1
  obtain ⟨x, y, t, rfl, h1⟩ := mm_i2_s h1
  cases h1
  exact lv_irem hx hb hd (hp _ rfl) (kk la H locs hl hr hS)
theorem mm_s_iushr (C : mm_Cx p s m args meth c cc nL o ini D tys) : mm_G p l e R s m args below meth c cells slots Q cc nL o ini D tys b0 H0 (.iushr) := by
  intro a b pc st ls h r h1 hp hd hk kk la H locs hl hr hS
  obtain ⟨hx, hb, hml, hts, hnw, hown, hini, hK, hty⟩ := C
  simp only [mm_st] at h1
  obtain ⟨x, y, t, rfl, h1⟩ := mm_i2_s h1
  cases h1
  exact lv_iushr hx hb hd rfl (kk la H locs hl hr hS)
theorem mm_s_ineg (C : mm_Cx p s m args meth c cc nL o ini D tys) : mm_G p l e R s m args below meth c cells slots Q cc nL o ini D tys b0 H0 (.ineg) := by
  intro a b pc st ls h r h1 hp hd hk kk la H locs hl hr hS
  obtain ⟨hx, hb, hml, hts, hnw, hown, hini, hK, hty⟩ := C
  simp only [mm_st] at h1
  obtain ⟨x, t, rfl, h1⟩ := mm_i1_s h1
  cases h1
  exact lv_ineg hx hb hd (kk la H locs hl hr hS)
theorem mm_s_land (C : mm_Cx p s m args meth c cc nL o ini D tys) : mm_G p l e R s m args below meth c cells slots Q cc nL o ini D tys b0 H0 (.land) := by
  intro a b pc st ls h r h1 hp hd hk kk la H locs hl hr hS
  obtain ⟨hx, hb, hml, hts, hnw, hown, hini, hK, hty⟩ := C
  simp only [mm_st] at h1
  obtain ⟨x, y, t, rfl, h1⟩ := mm_l2_s h1
  cases h1
  exact lv_land hx hb hd (kk la H locs hl hr hS)
theorem mm_s_lor (C : mm_Cx p s m args meth c cc nL o ini D tys) : mm_G p l e R s m args below meth c cells slots Q cc nL o ini D tys b0 H0 (.lor) := by
  intro a b pc st ls h r h1 hp hd hk kk la H locs hl hr hS
  obtain ⟨hx, hb, hml, hts, hnw, hown, hini, hK, hty⟩ := C
  simp only [mm_st] at h1
  obtain ⟨x, y, t, rfl, h1⟩ := mm_l2_s h1
  cases h1
  exact lv_lor hx hb hd (kk la H locs hl hr hS)
theorem mm_s_lcmp (C : mm_Cx p s m args meth c cc nL o ini D tys) : mm_G p l e R s m args below meth c cells slots Q cc nL o ini D tys b0 H0 (.lcmp) := by
  intro a b pc st ls h r h1 hp hd hk kk la H locs hl hr hS
  obtain ⟨hx, hb, hml, hts, hnw, hown, hini, hK, hty⟩ := C
  simp only [mm_st] at h1
  obtain ⟨x, y, t, rfl, h1⟩ := mm_l2_s h1
  cases h1
  exact W.lcmp hx hb hd (kk la H locs hl hr hS)
theorem mm_s_lshl (C : mm_Cx p s m args meth c cc nL o ini D tys) : mm_G p l e R s m args below meth c cells slots Q cc nL o ini D tys b0 H0 (.lshl) := by
  intro a b pc st ls h r h1 hp hd hk kk la H locs hl hr hS
  obtain ⟨hx, hb, hml, hts, hnw, hown, hini, hK, hty⟩ := C
  simp only [mm_st] at h1
  obtain ⟨x, y, t, rfl, h1⟩ := mm_li_s h1
  cases h1
  exact lv_lshl hx hb hd rfl (kk la H locs hl hr hS)
theorem mm_s_lshr (C : mm_Cx p s m args meth c cc nL o ini D tys) : mm_G p l e R s m args below meth c cells slots Q cc nL o ini D tys b0 H0 (.lshr) := by
  intro a b pc st ls h r h1 hp hd hk kk la H locs hl hr hS
  obtain ⟨hx, hb, hml, hts, hnw, hown, hini, hK, hty⟩ := C
  simp only [mm_st] at h1
  obtain ⟨x, y, t, rfl, h1⟩ := mm_li_s h1
  cases h1
  exact lv_lshr hx hb hd rfl (kk la H locs hl hr hS)
theorem mm_s_i2l (C : mm_Cx p s m args meth c cc nL o ini D tys) : mm_G p l e R s m args below meth c cells slots Q cc nL o ini D tys b0 H0 (.i2l) := by
  intro a b pc st ls h r h1 hp hd hk kk la H locs hl hr hS
  obtain ⟨hx, hb, hml, hts, hnw, hown, hini, hK, hty⟩ := C
  simp only [mm_st] at h1
  obtain ⟨x, t, rfl, h1⟩ := mm_i1_s h1
  cases h1
  exact lv_i2l hx hb hd rfl (kk la H locs hl hr hS)
theorem mm_s_i2c (C : mm_Cx p s m args meth c cc nL o ini D tys) : mm_G p l e R s m args below meth c cells slots Q cc nL o ini D tys b0 H0 (.i2c) := by
  intro a b pc st ls h r h1 hp hd hk kk la H locs hl hr hS
  obtain ⟨hx, hb, hml, hts, hnw, hown, hini, hK, hty⟩ := C
  simp only [mm_st] at h1
  obtain ⟨x, t, rfl, h1⟩ := mm_i1_s h1
  cases h1
  exact lv_i2c hx hb hd rfl (kk la H locs hl hr hS)
theorem mm_s_i2b (C : mm_Cx p s m args meth c cc nL o ini D tys) : mm_G p l e R s m args below meth c cells slots Q cc nL o ini D tys b0 H0 (.i2b) := by
  intro a b pc st ls h r h1 hp hd hk kk la H locs hl hr hS
  obtain ⟨hx, hb, hml, hts, hnw, hown, hini, hK, hty⟩ := C
  simp only [mm_st] at h1
  obtain ⟨x, t, rfl, h1⟩ := mm_i1_s h1
  cases h1
  exact lv_i2b hx hb hd rfl (kk la H locs hl hr hS)
theorem mm_s_l2i (C : mm_Cx p s m args meth c cc nL o ini D tys) : mm_G p l e R s m args below meth c cells slots Q cc nL o ini D tys b0 H0 (.l2i) := by
  intro a b pc st ls h r h1 hp hd hk kk la H locs hl hr hS
  obtain ⟨hx, hb, hml, hts, hnw, hown, hini, hK, hty⟩ := C
  simp only [mm_st] at h1
  obtain ⟨x, t, rfl, h1⟩ := mm_l1_s h1
  cases h1
  exact lv_l2i hx hb hd rfl (kk la H locs hl hr hS)
theorem mm_s_dup (C : mm_Cx p s m args meth c cc nL o ini D tys) : mm_G p l e R s m args below meth c cells slots Q cc nL o ini D tys b0 H0 (.dup) := by
  intro a b pc st ls h r h1 hp hd hk kk la H locs hl hr hS
  obtain ⟨hx, hb, hml, hts, hnw, hown, hini, hK, hty⟩ := C
  simp only [mm_st] at h1
  split at h1
  · cases h1
    exact lv_dup hx hb hd (hp _ rfl) (kk la H locs hl hr hS)
  · cases h1
theorem mm_s_pop (C : mm_Cx p s m args meth c cc nL o ini D tys) : mm_G p l e R s m args below meth c cells slots Q cc nL o ini D tys b0 H0 (.pop) := by
  intro a b pc st ls h r h1 hp hd hk kk la H locs hl hr hS
  obtain ⟨hx, hb, hml, hts, hnw, hown, hini, hK, hty⟩ := C
  simp only [mm_st] at h1
  split at h1
  · cases h1
    exact lv_pop hx hb hd (hp _ rfl) (kk la H locs hl hr hS)
  · cases h1
theorem mm_s_dup2 (C : mm_Cx p s m args meth c cc nL o ini D tys) : mm_G p l e R s m args below meth c cells slots Q cc nL o ini D tys b0 H0 (.dup2) := by
  intro a b pc st ls h r h1 hp hd hk kk la H locs hl hr hS
  obtain ⟨hx, hb, hml, hts, hnw, hown, hini, hK, hty⟩ := C
  simp only [mm_st] at h1
  split at h1
  · cases h1
    exact lv_dup2_11 hx hb hd (hp _ rfl).1 (hp _ rfl).2 (kk la H locs hl hr hS)
  · cases h1
theorem mm_s_dup_x1 (C : mm_Cx p s m args meth c cc nL o ini D tys) : mm_G p l e R s m args below meth c cells slots Q cc nL o ini D tys b0 H0 (.dup_x1) := by
  intro a b pc st ls h r h1 hp hd hk kk la H locs hl hr hS
  obtain ⟨hx, hb, hml, hts, hnw, hown, hini, hK, hty⟩ := C
  simp only [mm_st] at h1
  split at h1
  · cases h1
    exact lv_dup_x1 hx hb hd (hp _ rfl).1 (hp _ rfl).2 (kk la H locs hl hr hS)
  · cases h1
theorem mm_s_goto (C : mm_Cx p s m args meth c cc nL o ini D tys) (off : Int) : mm_G p l e R s m args below meth c cells slots Q cc nL o ini D tys b0 H0 (.goto off) := by
  intro a b pc st ls h r h1 hp hd hk kk la H locs hl hr hS
  obtain ⟨hx, hb, hml, hts, hnw, hown, hini, hK, hty⟩ := C
  simp only [mm_st] at h1
  cases h1
  exact lv_goto hx hb hd (mm_to_ok (hp _ rfl)) (kk la H locs hl hr hS)
theorem mm_s_ifCond (C : mm_Cx p s m args meth c cc nL o ini D tys) (cd : Jvm.ClassFile.Cond) (off : Int) : mm_G p l e R s m args below meth c cells slots Q cc nL o ini D tys b0 H0 (.ifCond cd off) := by
  intro a b pc st ls h r h1 hp hd hk kk la H locs hl hr hS
  obtain ⟨hx, hb, hml, hts, hnw, hown, hini, hK, hty⟩ := C
  simp only [mm_st] at h1
  obtain ⟨x, t, rfl, h1⟩ := mm_i1_s h1
  cases h1
  have ht := mm_to_ok (hp _ rfl)
  cases cd with
  | eq => exact lv_if_eq hx hb hd ht (fun z => by simp only [mm_cm] at kk; rw [if_pos z] at kk; exact kk la H locs hl hr hS) (fun z => by simp only [mm_cm] at kk; rw [if_neg z] at kk; exact kk la H locs hl hr hS)
  | ne => exact lv_if_ne hx hb hd ht (fun z => by simp only [mm_cm] at kk; rw [if_pos z] at kk; exact kk la H locs hl hr hS) (fun z => by simp only [mm_cm] at kk; rw [if_neg (fun q => q z)] at kk; exact kk la H locs hl hr hS)
  | lt => exact lv_if_lt hx hb hd ht (fun z => by simp only [mm_cm] at kk; rw [if_pos z] at kk; exact kk la H locs hl hr hS) (fun z => by simp only [mm_cm] at kk; rw [if_neg z] at kk; exact kk la H locs hl hr hS)
  | ge => exact lv_if_ge hx hb hd ht (fun z => by simp only [mm_cm] at kk; rw [if_pos z] at kk; exact kk la H locs hl hr hS) (fun z => by simp only [mm_cm] at kk; rw [if_neg z] at kk; exact kk la H locs hl hr hS)
  | gt => exact lv_if_gt hx hb hd ht (fun z => by simp only [mm_cm] at kk; rw [if_pos z] at kk; exact kk la H locs hl hr hS) (fun z => by simp only [mm_cm] at kk; rw [if_neg z] at kk; exact kk la H locs hl hr hS)
  | le => exact lv_if_le hx hb hd ht (fun z => by simp only [mm_cm] at kk; rw [if_pos z] at kk; exact kk la H locs hl hr hS) (fun z => by simp only [mm_cm] at kk; rw [if_neg z] at kk; exact kk la H locs hl hr hS)
theorem mm_s_if_icmp (C : mm_Cx p s m args meth c cc nL o ini D tys) (cd : Jvm.ClassFile.Cond) (off : Int) : mm_G p l e R s m args below meth c cells slots Q cc nL o ini D tys b0 H0 (.if_icmp cd off) := by
  intro a b pc st ls h r h1 hp hd hk kk la H locs hl hr hS
  obtain ⟨hx, hb, hml, hts, hnw, hown, hini, hK, hty⟩ := C
  simp only [mm_st] at h1
  obtain ⟨x, y, t, rfl, h1⟩ := mm_i2_s h1
  cases h1
  have ht := mm_to_ok (hp _ rfl)
  cases cd with
  | eq => exact lv_icmp_eq hx hb hd ht (fun z => by simp only [mm_cm] at kk; rw [if_pos z] at kk; exact kk la H locs hl hr hS) (fun z => by simp only [mm_cm] at kk; rw [if_neg z] at kk; exact kk la H locs hl hr hS)
  | ne => exact lv_icmp_ne hx hb hd ht (fun z => by simp only [mm_cm] at kk; rw [if_pos z] at kk; exact kk la H locs hl hr hS) (fun z => by simp only [mm_cm] at kk; rw [if_neg (fun q => q z)] at kk; exact kk la H locs hl hr hS)
  | lt => exact lv_icmp_lt hx hb hd ht (fun z => by simp only [mm_cm] at kk; rw [if_pos z] at kk; exact kk la H locs hl hr hS) (fun z => by simp only [mm_cm] at kk; rw [if_neg z] at kk; exact kk la H locs hl hr hS)
  | ge => exact lv_icmp_ge hx hb hd ht (fun z => by simp only [mm_cm] at kk; rw [if_pos z] at kk; exact kk la H locs hl hr hS) (fun z => by simp only [mm_cm] at kk; rw [if_neg z] at kk; exact kk la H locs hl hr hS)
  | gt => exact lv_icmp_gt hx hb hd ht (fun z => by simp only [mm_cm] at kk; rw [if_pos z] at kk; exact kk la H locs hl hr hS) (fun z => by simp only [mm_cm] at kk; rw [if_neg z] at kk; exact kk la H locs hl hr hS)
  | le => exact lv_icmp_le hx hb hd ht (fun z => by simp only [mm_cm] at kk; rw [if_pos z] at kk; exact kk la H locs hl hr hS) (fun z => by simp only [mm_cm] at kk; rw [if_neg z] at kk; exact kk la H locs hl hr hS)
theorem mm_s_getfield (C : mm_Cx p s m args meth c cc nL o ini D tys) (i : Nat) : mm_G p l e R s m args below meth c cells slots Q cc nL o ini D tys b0 H0 (.getfield i) := by
  intro a b pc st ls h r h1 hp hd hk kk la H locs hl hr hS
  obtain ⟨hx, hb, hml, hts, hnw, hown, hini, hK, hty⟩ := C
  simp only [mm_st] at h1
  obtain ⟨q, t, rfl, h2⟩ := mm_a1_s h1
  clear h1
  obtain ⟨ci, fs, hc, h3⟩ := mm_obj_s h2
  clear h2
  split at h3
  · next e =>
    subst e
    split at h3
    · next v hv =>
      cases h3
      have hq := hp _ rfl
      obtain ⟨k0, hk0⟩ := mm_ws_get (tys := tys) hq
      rw [hc] at hk0
      simp only [mm_lk, Bool.and_eq_true, Bool.or_eq_true, decide_eq_true_eq] at hk
      obtain ⟨hk1, ha, hbn⟩ := hk
      rcases hk1 with hk1 | hk1
      · exact va_get (T := (mm_C ci).2.1) (N := (mm_C ci).2.2) (C := (mm_C ci).1) hx hb hts (mm_yin ha) hown hK hr.1 k0 hk0 (mm_cl_at ha) b hbn (hts _ (mm_row hk1 _ List.mem_cons_self)) (fun _ z => z) hv hd (kk la H locs hl hr hS)
      · exact va_getN (T := (mm_C ci).2.1) (N := (mm_C ci).2.2) (C := (mm_C ci).1) hx hb hts (mm_yin ha) hown hK hr.1 k0 hk0 (mm_cl_at ha) b hbn ((hnw _ (mm_rowN hk1 _ List.mem_cons_self)).use rfl) (fun _ z => z) hv hd (kk la H locs hl hr hS)
    · cases h3
  · cases h3
theorem mm_s_putfield (C : mm_Cx p s m args meth c cc nL o ini D tys) (i : Nat) : mm_G p l e R s m args below meth c cells slots Q cc nL o ini D tys b0 H0 (.putfield i) := by
  intro a b pc st ls h r h1 hp hd hk kk la H locs hl hr hS
  obtain ⟨hx, hb, hml, hts, hnw, hown, hini, hK, hty⟩ := C
  simp only [mm_st] at h1
  split at h1
  · next v q t =>
    obtain ⟨ci, fs, hc, h1⟩ := mm_obj_s h1
    split at h1
    · next e =>
      subst e
      cases h1
      obtain ⟨hq, hbl, hn, hf⟩ := hp _ rfl
      obtain ⟨k0, hk0⟩ := mm_ws_get (tys := tys) hq
      have hk1 := hk0
      rw [hc] at hk1
      have ha9 : ci < 8 := by
        simp only [mm_lk, Bool.and_eq_true, decide_eq_true_eq] at hk
        exact hk.2.1
      have fin : ∀ (H2 : Heap) (locs2 : List Loc), va_P D mm_cl ((mm_ws tys h).set k0 (q, .inr (ci, fs.set b v))) H2 → va_D (mm_A b0) ((mm_ws tys h).set k0 (q, .inr (ci, fs.set b v))) → va_S (mm_A b0) H0 H2 locs2 → W p l e R s m args below meth c H2 locs2 cells slots Q (F0 m (pc + 3) la t) := by
        intro H2 locs2 hP2 hD2 hS2
        have es := mm_ws_set (c := .inr (ci, fs.set b v)) hr.2.1 hq hk0
        rw [show (q, (.inr (ci, fs.set b v) : va_E)) = (q, mm_cv tys (.inr (ci, fs.set b v))) from rfl, es] at hP2 hD2
        exact kk la H2 locs2 hl ⟨hP2, hD2, mm_mk_put hr.2.2 hq (fun z => absurd (congrArg Prod.fst (Sum.inr.inj z)) (by show ¬ ci = 9; omega))⟩ hS2
      simp only [mm_lk, Bool.and_eq_true, Bool.or_eq_true, decide_eq_true_eq, Bool.not_eq_true'] at hk
      obtain ⟨hk2, ha, hbn⟩ := hk
      rcases hk2 with ⟨hk2, hf1 | ⟨hi1, hi2⟩⟩ | ⟨hk2, hf1⟩
      · exact va_put (T := (mm_C ci).2.1) (N := (mm_C ci).2.2) (C := (mm_C ci).1) (ty := mm_fty ci b) hx hb hts (mm_yin ha) (mm_fty ci) (mm_ftyok ha) (mm_nmok ha) hown hK hr.1 hr.2.1 hS k0 hk1 (mm_cl_at ha) b hbn (hts _ (mm_row hk2 _ List.mem_cons_self)) (fun _ z => z) hf1 (mm_ftyok ha b hbn) hn hf hbl hd fin
      · by_cases hf1 : ((mm_C ci).2.1 b).2.2.2 = false
        · exact va_put (T := (mm_C ci).2.1) (N := (mm_C ci).2.2) (C := (mm_C ci).1) (ty := mm_fty ci b) hx hb hts (mm_yin ha) (mm_fty ci) (mm_ftyok ha) (mm_nmok ha) hown hK hr.1 hr.2.1 hS k0 hk1 (mm_cl_at ha) b hbn (hts _ (mm_row hk2 _ List.mem_cons_self)) (fun _ z => z) hf1 (mm_ftyok ha b hbn) hn hf hbl hd fin
        · exact va_putF (T := (mm_C ci).2.1) (N := (mm_C ci).2.2) (C := (mm_C ci).1) (ty := mm_fty ci b) hx hb hts (mm_yin ha) (mm_fty ci) (mm_ftyok ha) (mm_nmok ha) hown hK hr.1 hr.2.1 hS k0 hk1 (mm_cl_at ha) b hbn (hts _ (mm_row hk2 _ List.mem_cons_self)) (fun _ z => z) (by simpa using hf1) (hini hi1) hi2 (mm_ftyok ha b hbn) hn hf hbl hd fin
      · exact va_putN (T := (mm_C ci).2.1) (N := (mm_C ci).2.2) (C := (mm_C ci).1) (ty := mm_fty ci b) hx hb hts (mm_yin ha) (mm_fty ci) (mm_ftyok ha) (mm_nmok ha) hown hK hr.1 hr.2.1 hS k0 hk1 (mm_cl_at ha) b hbn ((hnw _ (mm_rowN hk2 _ List.mem_cons_self)).use rfl) (fun _ z => z) hf1 (mm_ftyok ha b hbn) hn hf hbl hd fin
    · cases h1
  · cases h1
theorem mm_s_iaload (C : mm_Cx p s m args meth c cc nL o ini D tys) : mm_G p l e R s m args below meth c cells slots Q cc nL o ini D tys b0 H0 (.iaload) := by
  intro a b pc st ls h r h1 hp hd hk kk la H locs hl hr hS
  obtain ⟨hx, hb, hml, hts, hnw, hown, hini, hK, hty⟩ := C
  simp only [mm_st] at h1
  obtain ⟨q, j, t, rfl, h1⟩ := mm_ai_s h1
  obtain ⟨ti, n, g, hc, h1⟩ := mm_arI_s h1
  cases h1
  obtain ⟨hq, rfl, hin⟩ := hp _ rfl
  obtain ⟨k0, hk0⟩ := mm_ws_get (tys := tys) hq
  rw [hc] at hk0
  exact va_iald hx hb hK hr.1 k0 0 hk0 (mm_ty_at hty (by decide)) hin hd (kk la H locs hl hr hS)
theorem mm_s_laload (C : mm_Cx p s m args meth c cc nL o ini D tys) : mm_G p l e R s m args below meth c cells slots Q cc nL o ini D tys b0 H0 (.laload) := by
  intro a b pc st ls h r h1 hp hd hk kk la H locs hl hr hS
  obtain ⟨hx, hb, hml, hts, hnw, hown, hini, hK, hty⟩ := C
  simp only [mm_st] at h1
  obtain ⟨q, j, t, rfl, h1⟩ := mm_ai_s h1
  obtain ⟨ti, n, g, hc, h1⟩ := mm_arL_s h1
  cases h1
  obtain ⟨hq, rfl, hin⟩ := hp _ rfl
  obtain ⟨k0, hk0⟩ := mm_ws_get (tys := tys) hq
  rw [hc] at hk0
  exact va_lald hx hb hK hr.1 k0 2 hk0 (mm_ty_at hty (by decide)) hin hd (kk la H locs hl hr hS)
theorem mm_s_daload (C : mm_Cx p s m args meth c cc nL o ini D tys) : mm_G p l e R s m args below meth c cells slots Q cc nL o ini D tys b0 H0 (.daload) := by
  intro a b pc st ls h r h1 hp hd hk kk la H locs hl hr hS
  obtain ⟨hx, hb, hml, hts, hnw, hown, hini, hK, hty⟩ := C
  simp only [mm_st] at h1
  obtain ⟨q, j, t, rfl, h1⟩ := mm_ai_s h1
  obtain ⟨ti, n, g, hc, h1⟩ := mm_arD_s h1
  cases h1
  obtain ⟨hq, rfl, hin⟩ := hp _ rfl
  obtain ⟨k0, hk0⟩ := mm_ws_get (tys := tys) hq
  rw [hc] at hk0
  exact va_dald hx hb hK hr.1 k0 3 hk0 (mm_ty_at hty (by decide)) hin hd (kk la H locs hl hr hS)
theorem mm_s_baload (C : mm_Cx p s m args meth c cc nL o ini D tys) : mm_G p l e R s m args below meth c cells slots Q cc nL o ini D tys b0 H0 (.baload) := by
  intro a b pc st ls h r h1 hp hd hk kk la H locs hl hr hS
  obtain ⟨hx, hb, hml, hts, hnw, hown, hini, hK, hty⟩ := C
  simp only [mm_st] at h1
  obtain ⟨q, j, t, rfl, h1⟩ := mm_ai_s h1
  obtain ⟨ti, n, g, hc, h1⟩ := mm_arI_s h1
  cases h1
  obtain ⟨hq, hti, hin⟩ := hp _ rfl
  obtain ⟨k0, hk0⟩ := mm_ws_get (tys := tys) hq
  rw [hc] at hk0
  rcases hti with rfl | rfl
  · exact va_zald hx hb hK hr.1 k0 1 hk0 (mm_ty_at hty (by decide)) hin hd (kk la H locs hl hr hS)
  · exact va_bald hx hb hK hr.1 k0 4 hk0 (mm_ty_at hty (by decide)) hin hd (kk la H locs hl hr hS)
theorem mm_s_aaload (C : mm_Cx p s m args meth c cc nL o ini D tys) : mm_G p l e R s m args below meth c cells slots Q cc nL o ini D tys b0 H0 (.aaload) := by
  intro a b pc st ls h r h1 hp hd hk kk la H locs hl hr hS
  obtain ⟨hx, hb, hml, hts, hnw, hown, hini, hK, hty⟩ := C
  simp only [mm_st] at h1
  obtain ⟨q, j, t, rfl, h1⟩ := mm_ai_s h1
  obtain ⟨ti, n, g, hc, h1⟩ := mm_arR_s h1
  cases h1
  obtain ⟨hq, h5, h9, hin⟩ := hp _ rfl
  obtain ⟨k0, hk0⟩ := mm_ws_get (tys := tys) hq
  rw [hc] at hk0
  have hlt : j.toNatClampNeg < n := Nat.not_le.mp fun q => hin (Or.inr q)
  have hta := mm_ty_at hty h9
  refine W.aald (v := va_rf (g j.toNatClampNeg)) (ty := mm_tyl.getD ti .int) hx hb (hr.1 k0 _ hk0) ((hK.2 ti _ hta).1 n (fun j => va_rf (g j))) ?_ (fun q => by cases q) (by show ¬ (j < 0 ∨ (arrV _ _ _).slots.size ≤ _); rw [arrV_size]; exact hin) (by show (arrV _ _ _).slots[_]? = _; rw [arrV_read _ _ hlt]) rfl rfl hd (kk la H locs hl hr hS)
  match ti, h5, h9 with
  | 5, _, _ => rfl
  | 6, _, _ => rfl
  | 7, _, _ => rfl
  | 8, _, _ => rfl
theorem mm_s_iastore (C : mm_Cx p s m args meth c cc nL o ini D tys) : mm_G p l e R s m args below meth c cells slots Q cc nL o ini D tys b0 H0 (.iastore) := by
  intro a b pc st ls h r h1 hp hd hk kk la H locs hl hr hS
  obtain ⟨hx, hb, hml, hts, hnw, hown, hini, hK, hty⟩ := C
  simp only [mm_st] at h1
  split at h1
  · next x j q t =>
    obtain ⟨ti, n, g, hc, h1⟩ := mm_arI_s h1
    cases h1
    obtain ⟨hq, rfl, hin⟩ := hp _ rfl
    obtain ⟨k0, hk0⟩ := mm_ws_get (tys := tys) hq
    have hk1 := hk0
    rw [hc] at hk1
    refine va_iast hx hb hK hr.1 hr.2.1 hS k0 0 hk1 (mm_ty_at hty (by decide)) hin hd (fun H2 locs2 hP2 hD2 hS2 => ?_)
    have es := mm_ws_set (c := .inl (0, n, .inl (upd g j.toNatClampNeg x))) hr.2.1 hq hk0
    have kk2 := kk la H2 locs2 hl (by unfold mm_rep; exact ⟨es ▸ hP2, es ▸ hD2, mm_mk_put hr.2.2 hq (fun z => by cases z)⟩) hS2
    exact kk2
  · cases h1
theorem mm_s_lastore (C : mm_Cx p s m args meth c cc nL o ini D tys) : mm_G p l e R s m args below meth c cells slots Q cc nL o ini D tys b0 H0 (.lastore) := by
  intro a b pc st ls h r h1 hp hd hk kk la H locs hl hr hS
  obtain ⟨hx, hb, hml, hts, hnw, hown, hini, hK, hty⟩ := C
  simp only [mm_st] at h1
  split at h1
  · next x j q t =>
    obtain ⟨ti, n, g, hc, h1⟩ := mm_arL_s h1
    cases h1
    obtain ⟨hq, rfl, hin⟩ := hp _ rfl
    obtain ⟨k0, hk0⟩ := mm_ws_get (tys := tys) hq
    have hk1 := hk0
    rw [hc] at hk1
    refine va_last hx hb hK hr.1 hr.2.1 hS k0 2 hk1 (mm_ty_at hty (by decide)) hin hd (fun H2 locs2 hP2 hD2 hS2 => ?_)
    have es := mm_ws_set (c := .inl (2, n, .inr (.inl (vp_updL g j.toNatClampNeg x)))) hr.2.1 hq hk0
    have kk2 := kk la H2 locs2 hl (by unfold mm_rep; exact ⟨es ▸ hP2, es ▸ hD2, mm_mk_put hr.2.2 hq (fun z => by cases z)⟩) hS2
    exact kk2
  · cases h1
theorem mm_s_bastore (C : mm_Cx p s m args meth c cc nL o ini D tys) : mm_G p l e R s m args below meth c cells slots Q cc nL o ini D tys b0 H0 (.bastore) := by
  intro a b pc st ls h r h1 hp hd hk kk la H locs hl hr hS
  obtain ⟨hx, hb, hml, hts, hnw, hown, hini, hK, hty⟩ := C
  simp only [mm_st] at h1
  split at h1
  · next x j q t =>
    obtain ⟨ti, n, g, hc, h1⟩ := mm_arI_s h1
    split at h1
    · next e =>
      subst e
      cases h1
      obtain ⟨hq, hin⟩ := hp _ rfl
      obtain ⟨k0, hk0⟩ := mm_ws_get (tys := tys) hq
      have hk1 := hk0
      rw [hc] at hk1
      refine va_zast hx hb hK hr.1 hr.2.1 hS k0 1 hk1 (mm_ty_at hty (by decide)) hin hd (fun H2 locs2 hP2 hD2 hS2 => ?_)
      have es := mm_ws_set (c := .inl (1, n, .inl (upd g j.toNatClampNeg (vp_nar .boolean x)))) hr.2.1 hq hk0
      exact kk la H2 locs2 hl (by unfold mm_rep; exact ⟨es ▸ hP2, es ▸ hD2, mm_mk_put hr.2.2 hq (fun z => by cases z)⟩) hS2
    split at h1
    · next e =>
      subst e
      cases h1
      obtain ⟨hq, hin⟩ := hp _ rfl
      obtain ⟨k0, hk0⟩ := mm_ws_get (tys := tys) hq
      have hk1 := hk0
      rw [hc] at hk1
      refine va_bast hx hb hK hr.1 hr.2.1 hS k0 4 hk1 (mm_ty_at hty (by decide)) hin hd (fun H2 locs2 hP2 hD2 hS2 => ?_)
      have es := mm_ws_set (c := .inl (4, n, .inl (upd g j.toNatClampNeg (vp_nar .byte x)))) hr.2.1 hq hk0
      exact kk la H2 locs2 hl (by unfold mm_rep; exact ⟨es ▸ hP2, es ▸ hD2, mm_mk_put hr.2.2 hq (fun z => by cases z)⟩) hS2
    · cases h1
  · cases h1
theorem mm_s_aastore (C : mm_Cx p s m args meth c cc nL o ini D tys) : mm_G p l e R s m args below meth c cells slots Q cc nL o ini D tys b0 H0 (.aastore) := by
  intro a b pc st ls h r h1 hp hd hk kk la H locs hl hr hS
  obtain ⟨hx, hb, hml, hts, hnw, hown, hini, hK, hty⟩ := C
  simp only [mm_st] at h1
  split at h1
  · next v j q t =>
    obtain ⟨ti, n, g, hc, h1⟩ := mm_arR_s h1
    obtain ⟨ci, fs, hv, h1⟩ := mm_obj_s h1
    cases h1
    obtain ⟨hq, hvq, hti, hci, hin⟩ := hp _ rfl
    obtain ⟨k0, hk0⟩ := mm_ws_get (tys := tys) hq
    have hk1 := hk0
    rw [hc] at hk1
    obtain ⟨k2, hk2⟩ := mm_ws_get (tys := tys) hvq
    rw [hv] at hk2
    have h9 : ti < 9 := by
      have := (List.getElem?_eq_some_iff.mp hti).1
      exact this
    have hta := mm_ty_at hty h9
    rw [List.getD_eq_getElem?_getD (l := mm_tyl), hti] at hta
    refine va_astq hx hb hK hr.1 hr.2.1 hS k0 ti k2 ci hk1 hta hk2 (mm_cl_at hci) hin hd (fun H2 locs2 hP2 hD2 hS2 => ?_)
    have es := mm_ws_set (c := .inl (ti, n, .inr (.inr (.inr (.inr (va_up g j.toNatClampNeg (some v))))))) hr.2.1 hq hk0
    exact kk la H2 locs2 hl (by unfold mm_rep; exact ⟨es ▸ hP2, es ▸ hD2, mm_mk_put hr.2.2 hq (fun z => by cases z)⟩) hS2
  · cases h1
theorem mm_s_arraylength (C : mm_Cx p s m args meth c cc nL o ini D tys) : mm_G p l e R s m args below meth c cells slots Q cc nL o ini D tys b0 H0 (.arraylength) := by
  intro a b pc st ls h r h1 hp hd hk kk la H locs hl hr hS
  obtain ⟨hx, hb, hml, hts, hnw, hown, hini, hK, hty⟩ := C
  simp only [mm_st] at h1
  obtain ⟨q, t, rfl, h2⟩ := mm_a1_s h1
  clear h1
  split at h2
  · next ti x hc =>
    cases h2
    obtain ⟨hq, h9⟩ := hp _ rfl
    obtain ⟨k0, hk0⟩ := mm_ws_get (tys := tys) hq
    rw [hc] at hk0
    exact va_alen hx hb hK hr.1 k0 ti hk0 (mm_ty_at hty h9) rfl hd (kk la H locs hl hr hS)
  · cases h2
theorem mm_s_tableswitch (C : mm_Cx p s m args meth c cc nL o ini D tys) (d lo hi : Int) (offs : Array Int) : mm_G p l e R s m args below meth c cells slots Q cc nL o ini D tys b0 H0 (.tableswitch d lo hi offs) := by
  intro a b pc st ls h r h1 hp hd hk kk la H locs hl hr hS
  obtain ⟨hx, hb, hml, hts, hnw, hown, hini, hK, hty⟩ := C
  simp only [mm_st] at h1
  obtain ⟨x, t, rfl, h1⟩ := mm_i1_s h1
  cases h1
  obtain ⟨h0, ho, hsz⟩ := hp _ rfl
  by_cases hz : x.toInt < lo ∨ hi < x.toInt
  · simp only [hz, if_true] at kk
    exact lv_tableOut hx hb hd hz (mm_to_ok h0) (kk la H locs hl hr hS)
  · simp only [hz, if_false] at kk
    have hlt : (x.toInt - lo).toNat < offs.size := by omega
    have e1 : offs[(x.toInt - lo).toNat]? = some offs[(x.toInt - lo).toNat] := Array.getElem?_eq_getElem hlt
    rw [e1] at kk
    simp only [Option.getD_some] at kk
    exact lv_tableIn hx hb hd (fun q => hz (Or.inl q)) (fun q => hz (Or.inr q)) e1 (mm_to_ok (ho _ (by simp))) (kk la H locs hl hr hS)
theorem mm_s_i2d (C : mm_Cx p s m args meth c cc nL o ini D tys) : mm_G p l e R s m args below meth c cells slots Q cc nL o ini D tys b0 H0 (.i2d) := by
  intro a b pc st ls h r h1 hp hd hk kk la H locs hl hr hS
  obtain ⟨hx, hb, hml, hts, hnw, hown, hini, hK, hty⟩ := C
  simp only [mm_st] at h1
  obtain ⟨x, t, rfl, h1⟩ := mm_i1_s h1
  cases h1
  exact lv_i2d hx hb hd (kk la H locs hl hr hS)
theorem mm_s_i2f (C : mm_Cx p s m args meth c cc nL o ini D tys) : mm_G p l e R s m args below meth c cells slots Q cc nL o ini D tys b0 H0 (.i2f) := by
  intro a b pc st ls h r h1 hp hd hk kk la H locs hl hr hS
  obtain ⟨hx, hb, hml, hts, hnw, hown, hini, hK, hty⟩ := C
  simp only [mm_st] at h1
  obtain ⟨x, t, rfl, h1⟩ := mm_i1_s h1
  cases h1
  exact lv_i2f hx hb hd (kk la H locs hl hr hS)
theorem mm_s_ddiv (C : mm_Cx p s m args meth c cc nL o ini D tys) : mm_G p l e R s m args below meth c cells slots Q cc nL o ini D tys b0 H0 (.ddiv) := by
  intro a b pc st ls h r h1 hp hd hk kk la H locs hl hr hS
  obtain ⟨hx, hb, hml, hts, hnw, hown, hini, hK, hty⟩ := C
  simp only [mm_st] at h1
  split at h1
  · cases h1
    exact lv_ddiv hx hb hd (hp _ rfl) (kk la H locs hl hr hS)
  · cases h1
theorem mm_s_fdiv (C : mm_Cx p s m args meth c cc nL o ini D tys) : mm_G p l e R s m args below meth c cells slots Q cc nL o ini D tys b0 H0 (.fdiv) := by
  intro a b pc st ls h r h1 hp hd hk kk la H locs hl hr hS
  obtain ⟨hx, hb, hml, hts, hnw, hown, hini, hK, hty⟩ := C
  simp only [mm_st] at h1
  split at h1
  · cases h1
    exact lv_fdiv hx hb hd (hp _ rfl) (kk la H locs hl hr hS)
  · cases h1
theorem mm_s_f2d (C : mm_Cx p s m args meth c cc nL o ini D tys) : mm_G p l e R s m args below meth c cells slots Q cc nL o ini D tys b0 H0 (.f2d) := by
  intro a b pc st ls h r h1 hp hd hk kk la H locs hl hr hS
  obtain ⟨hx, hb, hml, hts, hnw, hown, hini, hK, hty⟩ := C
  simp only [mm_st] at h1
  split at h1
  · cases h1
    exact lv_f2d hx hb hd (hp _ rfl) (kk la H locs hl hr hS)
  · cases h1
theorem mm_s_dcmp (C : mm_Cx p s m args meth c cc nL o ini D tys) (op : CmpOp) : mm_G p l e R s m args below meth c cells slots Q cc nL o ini D tys b0 H0 (.dcmp op) := by
  intro a b pc st ls h r h1 hp hd hk kk la H locs hl hr hS
  obtain ⟨hx, hb, hml, hts, hnw, hown, hini, hK, hty⟩ := C
  simp only [mm_st] at h1
  split at h1
  · cases h1
    exact lv_dcmp hx hb hd (kk la H locs hl hr hS)
  · cases h1
theorem mm_s_fcmp (C : mm_Cx p s m args meth c cc nL o ini D tys) (op : CmpOp) : mm_G p l e R s m args below meth c cells slots Q cc nL o ini D tys b0 H0 (.fcmp op) := by
  intro a b pc st ls h r h1 hp hd hk kk la H locs hl hr hS
  obtain ⟨hx, hb, hml, hts, hnw, hown, hini, hK, hty⟩ := C
  simp only [mm_st] at h1
  split at h1
  · cases h1
    exact lv_fcmp hx hb hd (kk la H locs hl hr hS)
  · cases h1
theorem mm_s_dload (C : mm_Cx p s m args meth c cc nL o ini D tys) (i : Nat) : mm_G p l e R s m args below meth c cells slots Q cc nL o ini D tys b0 H0 (.dload i) := by
  intro a b pc st ls h r h1 hp hd hk kk la H locs hl hr hS
  obtain ⟨hx, hb, hml, hts, hnw, hown, hini, hK, hty⟩ := C
  simp only [mm_st] at h1
  split at h1
  · next x hg =>
    cases h1
    exact lv_dload hx hb hd (mm_at hl hg) (kk la H locs hl hr hS)
  · cases h1
theorem mm_s_fload (C : mm_Cx p s m args meth c cc nL o ini D tys) (i : Nat) : mm_G p l e R s m args below meth c cells slots Q cc nL o ini D tys b0 H0 (.fload i) := by
  intro a b pc st ls h r h1 hp hd hk kk la H locs hl hr hS
  obtain ⟨hx, hb, hml, hts, hnw, hown, hini, hK, hty⟩ := C
  simp only [mm_st] at h1
  split at h1
  · next x hg =>
    cases h1
    exact lv_fload hx hb hd (mm_at hl hg) (kk la H locs hl hr hS)
  · cases h1
theorem mm_s_dstore (C : mm_Cx p s m args meth c cc nL o ini D tys) (i : Nat) : mm_G p l e R s m args below meth c cells slots Q cc nL o ini D tys b0 H0 (.dstore i) := by
  intro a b pc st ls h r h1 hp hd hk kk la H locs hl hr hS
  obtain ⟨hx, hb, hml, hts, hnw, hown, hini, hK, hty⟩ := C
  simp only [mm_st] at h1
  split at h1
  · cases h1
    simp only [mm_lk, decide_eq_true_eq] at hk
    exact lv_dstore hx hb hd hl hk rfl (fun la2 hl2 => kk la2 H locs hl2 hr hS)
  · cases h1
theorem mm_s_fstore (C : mm_Cx p s m args meth c cc nL o ini D tys) (i : Nat) : mm_G p l e R s m args below meth c cells slots Q cc nL o ini D tys b0 H0 (.fstore i) := by
  intro a b pc st ls h r h1 hp hd hk kk la H locs hl hr hS
  obtain ⟨hx, hb, hml, hts, hnw, hown, hini, hK, hty⟩ := C
  simp only [mm_st] at h1
  split at h1
  · cases h1
    simp only [mm_lk, decide_eq_true_eq] at hk
    exact lv_fstore hx hb hd hl hk rfl (fun la2 hl2 => kk la2 H locs hl2 hr hS)
  · cases h1
theorem mm_s_dconst (C : mm_Cx p s m args meth c cc nL o ini D tys) (d : Fin 2) : mm_G p l e R s m args below meth c cells slots Q cc nL o ini D tys b0 H0 (.dconst d) := by
  intro a b pc st ls h r h1 hp hd hk kk la H locs hl hr hS
  obtain ⟨hx, hb, hml, hts, hnw, hown, hini, hK, hty⟩ := C
  simp only [mm_st] at h1
  split at h1
  · next e =>
    subst e
    cases h1
    exact lv_dconst0 hx hb hd (kk la H locs hl hr hS)
  · cases h1
theorem mm_s_fconst (C : mm_Cx p s m args meth c cc nL o ini D tys) (d : Fin 3) : mm_G p l e R s m args below meth c cells slots Q cc nL o ini D tys b0 H0 (.fconst d) := by
  intro a b pc st ls h r h1 hp hd hk kk la H locs hl hr hS
  obtain ⟨hx, hb, hml, hts, hnw, hown, hini, hK, hty⟩ := C
  simp only [mm_st] at h1
  split at h1
  · next e =>
    subst e
    cases h1
    exact lv_fconst0 hx hb hd (kk la H locs hl hr hS)
  · cases h1
theorem mm_s_dastore (C : mm_Cx p s m args meth c cc nL o ini D tys) : mm_G p l e R s m args below meth c cells slots Q cc nL o ini D tys b0 H0 (.dastore) := by
  intro a b pc st ls h r h1 hp hd hk kk la H locs hl hr hS
  obtain ⟨hx, hb, hml, hts, hnw, hown, hini, hK, hty⟩ := C
  simp only [mm_st] at h1
  split at h1
  · next x j q t =>
    obtain ⟨ti, n, g, hc, h1⟩ := mm_arD_s h1
    cases h1
    obtain ⟨hq, rfl, hin⟩ := hp _ rfl
    obtain ⟨k0, hk0⟩ := mm_ws_get (tys := tys) hq
    have hk1 := hk0
    rw [hc] at hk1
    refine va_dast hx hb hK hr.1 hr.2.1 hS k0 3 hk1 (mm_ty_at hty (by decide)) hin hd (fun H2 locs2 hP2 hD2 hS2 => ?_)
    have es := mm_ws_set (c := .inl (3, n, .inr (.inr (.inr (.inl (vf_upd g j.toNatClampNeg x)))))) hr.2.1 hq hk0
    have kk2 := kk la H2 locs2 hl (by unfold mm_rep; exact ⟨es ▸ hP2, es ▸ hD2, mm_mk_put hr.2.2 hq (fun z => by cases z)⟩) hS2
    exact kk2
  · cases h1
theorem mm_step (C : mm_Cx p s m args meth c cc nL o ini D tys) (ins : Instr) : mm_G p l e R s m args below meth c cells slots Q cc nL o ini D tys b0 H0 ins := by
  intro a b pc st ls h r h1
  cases ins with
  | ldc_w x0 => exact mm_s_ldc_w C x0 a b pc st ls h r h1
  | i2d => exact mm_s_i2d C  a b pc st ls h r h1
  | i2f => exact mm_s_i2f C  a b pc st ls h r h1
  | ddiv => exact mm_s_ddiv C  a b pc st ls h r h1
  | fdiv => exact mm_s_fdiv C  a b pc st ls h r h1
  | f2d => exact mm_s_f2d C  a b pc st ls h r h1
  | dcmp x0 => exact mm_s_dcmp C x0 a b pc st ls h r h1
  | fcmp x0 => exact mm_s_fcmp C x0 a b pc st ls h r h1
  | dload x0 => exact mm_s_dload C x0 a b pc st ls h r h1
  | fload x0 => exact mm_s_fload C x0 a b pc st ls h r h1
  | dstore x0 => exact mm_s_dstore C x0 a b pc st ls h r h1
  | fstore x0 => exact mm_s_fstore C x0 a b pc st ls h r h1
  | dconst x0 => exact mm_s_dconst C x0 a b pc st ls h r h1
  | fconst x0 => exact mm_s_fconst C x0 a b pc st ls h r h1
  | dastore => exact mm_s_dastore C  a b pc st ls h r h1
  | iconst x0 => exact mm_s_iconst C x0 a b pc st ls h r h1
  | bipush x0 => exact mm_s_bipush C x0 a b pc st ls h r h1
  | sipush x0 => exact mm_s_sipush C x0 a b pc st ls h r h1
  | lconst x0 => exact mm_s_lconst C x0 a b pc st ls h r h1
  | ldc x0 => exact mm_s_ldc C x0 a b pc st ls h r h1
  | ldc2_w x0 => exact mm_s_ldc2_w C x0 a b pc st ls h r h1
  | iload x0 => exact mm_s_iload C x0 a b pc st ls h r h1
  | iload_n x0 => exact mm_s_iload_n C x0 a b pc st ls h r h1
  | lload x0 => exact mm_s_lload C x0 a b pc st ls h r h1
  | lload_n x0 => exact mm_s_lload_n C x0 a b pc st ls h r h1
  | aload x0 => exact mm_s_aload C x0 a b pc st ls h r h1
  | aload_n x0 => exact mm_s_aload_n C x0 a b pc st ls h r h1
  | istore x0 => exact mm_s_istore C x0 a b pc st ls h r h1
  | istore_n x0 => exact mm_s_istore_n C x0 a b pc st ls h r h1
  | lstore x0 => exact mm_s_lstore C x0 a b pc st ls h r h1
  | lstore_n x0 => exact mm_s_lstore_n C x0 a b pc st ls h r h1
  | astore x0 => exact mm_s_astore C x0 a b pc st ls h r h1
  | astore_n x0 => exact mm_s_astore_n C x0 a b pc st ls h r h1
  | iinc x0 x1 => exact mm_s_iinc C x0 x1 a b pc st ls h r h1
  | iadd => exact mm_s_iadd C  a b pc st ls h r h1
  | isub => exact mm_s_isub C  a b pc st ls h r h1
  | imul => exact mm_s_imul C  a b pc st ls h r h1
  | iand => exact mm_s_iand C  a b pc st ls h r h1
  | ior => exact mm_s_ior C  a b pc st ls h r h1
  | idiv => exact mm_s_idiv C  a b pc st ls h r h1
  | irem => exact mm_s_irem C  a b pc st ls h r h1
  | ineg => exact mm_s_ineg C  a b pc st ls h r h1
  | ishl => exact mm_s_ishl C  a b pc st ls h r h1
  | ishr => exact mm_s_ishr C  a b pc st ls h r h1
  | iushr => exact mm_s_iushr C  a b pc st ls h r h1
  | land => exact mm_s_land C  a b pc st ls h r h1
  | lor => exact mm_s_lor C  a b pc st ls h r h1
  | lshl => exact mm_s_lshl C  a b pc st ls h r h1
  | lshr => exact mm_s_lshr C  a b pc st ls h r h1
  | lcmp => exact mm_s_lcmp C  a b pc st ls h r h1
  | i2l => exact mm_s_i2l C  a b pc st ls h r h1
  | l2i => exact mm_s_l2i C  a b pc st ls h r h1
  | i2c => exact mm_s_i2c C  a b pc st ls h r h1
  | i2b => exact mm_s_i2b C  a b pc st ls h r h1
  | dup => exact mm_s_dup C  a b pc st ls h r h1
  | dup2 => exact mm_s_dup2 C  a b pc st ls h r h1
  | dup_x1 => exact mm_s_dup_x1 C  a b pc st ls h r h1
  | pop => exact mm_s_pop C  a b pc st ls h r h1
  | goto x0 => exact mm_s_goto C x0 a b pc st ls h r h1
  | ifCond x0 x1 => exact mm_s_ifCond C x0 x1 a b pc st ls h r h1
  | if_icmp x0 x1 => exact mm_s_if_icmp C x0 x1 a b pc st ls h r h1
  | getfield x0 => exact mm_s_getfield C x0 a b pc st ls h r h1
  | putfield x0 => exact mm_s_putfield C x0 a b pc st ls h r h1
  | iaload => exact mm_s_iaload C  a b pc st ls h r h1
  | baload => exact mm_s_baload C  a b pc st ls h r h1
  | laload => exact mm_s_laload C  a b pc st ls h r h1
  | daload => exact mm_s_daload C  a b pc st ls h r h1
  | aaload => exact mm_s_aaload C  a b pc st ls h r h1
  | iastore => exact mm_s_iastore C  a b pc st ls h r h1
  | bastore => exact mm_s_bastore C  a b pc st ls h r h1
  | lastore => exact mm_s_lastore C  a b pc st ls h r h1
  | aastore => exact mm_s_aastore C  a b pc st ls h r h1
  | arraylength => exact mm_s_arraylength C  a b pc st ls h r h1
  | tableswitch x0 x1 x2 x3 => exact mm_s_tableswitch C x0 x1 x2 x3 a b pc st ls h r h1
  | _ => simp [mm_st] at h1
end MMS

/-! the laws of String.length, charAt and checkIndex -/
theorem z3_0 : decode cJ3_checkIndex_8e157 0 = .ok (.iload_n 0, 1) := by decide +kernel
theorem z3_1 : decode cJ3_checkIndex_8e157 1 = .ok (.ifCond .lt 8, 3) := by decide +kernel
theorem z3_4 : decode cJ3_checkIndex_8e157 4 = .ok (.iload_n 0, 1) := by decide +kernel
theorem z3_5 : decode cJ3_checkIndex_8e157 5 = .ok (.iload_n 1, 1) := by decide +kernel
theorem z3_6 : decode cJ3_checkIndex_8e157 6 = .ok (.if_icmp .lt 10, 3) := by decide +kernel
theorem z3_16 : decode cJ3_checkIndex_8e157 16 = .ok (.iload_n 0, 1) := by decide +kernel
theorem z3_17 : decode cJ3_checkIndex_8e157 17 = .ok (.ireturn, 1) := by decide +kernel
theorem zi_0 : decode cJ0_checkIndex_df160 0 = .ok (.iload_n 0, 1) := by decide +kernel
theorem zi_1 : decode cJ0_checkIndex_df160 1 = .ok (.iload_n 1, 1) := by decide +kernel
theorem zi_2 : decode cJ0_checkIndex_df160 2 = .ok (.getstatic 1053, 3) := by decide +kernel
theorem zi_5 : decode cJ0_checkIndex_df160 5 = .ok (.invokestatic 1059, 3) := by decide +kernel
theorem zi_8 : decode cJ0_checkIndex_df160 8 = .ok (.pop, 1) := by decide +kernel
theorem zi_9 : decode cJ0_checkIndex_df160 9 = .ok (.return_, 1) := by decide +kernel
theorem zc_0 : decode cJ0_coder_7d493 0 = .ok (.getstatic 38, 3) := by decide +kernel
theorem zc_3 : decode cJ0_coder_7d493 3 = .ok (.ifCond .eq 10, 3) := by decide +kernel
theorem zc_6 : decode cJ0_coder_7d493 6 = .ok (.aload_n 0, 1) := by decide +kernel
theorem zc_7 : decode cJ0_coder_7d493 7 = .ok (.getfield 15, 3) := by decide +kernel
theorem zc_10 : decode cJ0_coder_7d493 10 = .ok (.goto 4, 3) := by decide +kernel
theorem zc_14 : decode cJ0_coder_7d493 14 = .ok (.ireturn, 1) := by decide +kernel
theorem zl_0 : decode cJ0_isLatin1_aae02 0 = .ok (.getstatic 38, 3) := by decide +kernel
theorem zl_3 : decode cJ0_isLatin1_aae02 3 = .ok (.ifCond .eq 14, 3) := by decide +kernel
theorem zl_6 : decode cJ0_isLatin1_aae02 6 = .ok (.aload_n 0, 1) := by decide +kernel
theorem zl_7 : decode cJ0_isLatin1_aae02 7 = .ok (.getfield 15, 3) := by decide +kernel
theorem zl_10 : decode cJ0_isLatin1_aae02 10 = .ok (.ifCond .ne 7, 3) := by decide +kernel
theorem zl_13 : decode cJ0_isLatin1_aae02 13 = .ok (.iconst 1, 1) := by decide +kernel
theorem zl_14 : decode cJ0_isLatin1_aae02 14 = .ok (.goto 4, 3) := by decide +kernel
theorem zl_18 : decode cJ0_isLatin1_aae02 18 = .ok (.ireturn, 1) := by decide +kernel
theorem z1_0 : decode cJ1_charAt_3b067 0 = .ok (.iload_n 1, 1) := by decide +kernel
theorem z1_1 : decode cJ1_charAt_3b067 1 = .ok (.aload_n 0, 1) := by decide +kernel
theorem z1_2 : decode cJ1_charAt_3b067 2 = .ok (.arraylength, 1) := by decide +kernel
theorem z1_3 : decode cJ1_charAt_3b067 3 = .ok (.invokestatic 9, 3) := by decide +kernel
theorem z1_6 : decode cJ1_charAt_3b067 6 = .ok (.aload_n 0, 1) := by decide +kernel
theorem z1_7 : decode cJ1_charAt_3b067 7 = .ok (.iload_n 1, 1) := by decide +kernel
theorem z1_8 : decode cJ1_charAt_3b067 8 = .ok (.baload, 1) := by decide +kernel
theorem z1_9 : decode cJ1_charAt_3b067 9 = .ok (.sipush 255, 3) := by decide +kernel
theorem z1_12 : decode cJ1_charAt_3b067 12 = .ok (.iand, 1) := by decide +kernel
theorem z1_13 : decode cJ1_charAt_3b067 13 = .ok (.i2c, 1) := by decide +kernel
theorem z1_14 : decode cJ1_charAt_3b067 14 = .ok (.ireturn, 1) := by decide +kernel
theorem zn_0 : decode cJ0_length_8abf5 0 = .ok (.aload_n 0, 1) := by decide +kernel
theorem zn_1 : decode cJ0_length_8abf5 1 = .ok (.getfield 9, 3) := by decide +kernel
theorem zn_4 : decode cJ0_length_8abf5 4 = .ok (.arraylength, 1) := by decide +kernel
theorem zn_5 : decode cJ0_length_8abf5 5 = .ok (.aload_n 0, 1) := by decide +kernel
theorem zn_6 : decode cJ0_length_8abf5 6 = .ok (.invokevirtual 335, 3) := by decide +kernel
theorem zn_9 : decode cJ0_length_8abf5 9 = .ok (.ishr, 1) := by decide +kernel
theorem zn_10 : decode cJ0_length_8abf5 10 = .ok (.ireturn, 1) := by decide +kernel
theorem zh_0 : decode cJ0_charAt_5068e 0 = .ok (.aload_n 0, 1) := by decide +kernel
theorem zh_1 : decode cJ0_charAt_5068e 1 = .ok (.invokevirtual 492, 3) := by decide +kernel
theorem zh_4 : decode cJ0_charAt_5068e 4 = .ok (.ifCond .eq 12, 3) := by decide +kernel
theorem zh_7 : decode cJ0_charAt_5068e 7 = .ok (.aload_n 0, 1) := by decide +kernel
theorem zh_8 : decode cJ0_charAt_5068e 8 = .ok (.getfield 9, 3) := by decide +kernel
theorem zh_11 : decode cJ0_charAt_5068e 11 = .ok (.iload_n 1, 1) := by decide +kernel
theorem zh_12 : decode cJ0_charAt_5068e 12 = .ok (.invokestatic 495, 3) := by decide +kernel
theorem zh_15 : decode cJ0_charAt_5068e 15 = .ok (.ireturn, 1) := by decide +kernel
theorem zo_48 : decode cX1_formOf 48 = .ok (.ldc 31, 2) := by decide +kernel
theorem zo_51 : decode cX1_formOf 51 = .ok (.ldc 33, 2) := by decide +kernel
theorem zo_54 : decode cX1_formOf 54 = .ok (.ldc 35, 2) := by decide +kernel
theorem zo_57 : decode cX1_formOf 57 = .ok (.ldc 37, 2) := by decide +kernel
theorem zo_60 : decode cX1_formOf 60 = .ok (.ldc 39, 2) := by decide +kernel
theorem zo_63 : decode cX1_formOf 63 = .ok (.ldc 41, 2) := by decide +kernel
theorem zo_66 : decode cX1_formOf 66 = .ok (.ldc 43, 2) := by decide +kernel
theorem zo_69 : decode cX1_formOf 69 = .ok (.ldc 45, 2) := by decide +kernel
theorem zo_72 : decode cX1_formOf 72 = .ok (.ldc 47, 2) := by decide +kernel
section ZZ
variable {p : Program} {l : Launch} {e : Env} {R : Room} {s : State} {m : MethodId} {args : Array Value} {below : List Frame} {meth : Method} {cd : Code} {H : Heap} {locs : List Loc} {cells slots : Nat}
variable {cc : ByteArray} {nL : Nat} {own : String} {D : va_G} {tys : List (ClassId × FieldType)} {b0 : Nat} {Amb : State → Heap → Prop} {T : List Cond} {Q : mm_Re → Prop}
/-- where a walk stands, with these words at hand -/
def ZZ (p : Program) (s : State) (m : MethodId) (args : Array Value) (meth : Method) (cd : Code) (cc : ByteArray) (nL : Nat) (own : String) (D : va_G) (tys : List (ClassId × FieldType)) (b0 : Nat) (Amb : State → Heap → Prop) (T : List Cond) : Prop :=
  p.tables.exec = Jvm.exec ∧ cd.code = cc ∧ cd.maxLocals = nL ∧ (∀ w ∈ T, w.before args s = true) ∧ (∀ w ∈ mm_N, va_Nw w s) ∧ s.vm.findClass own = some m.cls ∧ va_K D mm_cl tys s ∧ meth.locks = false ∧ b0 ≤ s.heap.size ∧ Amb s s.heap
/-- entering a method without handlers -/
theorem zz_in (l : Launch) (D : va_G) (tys : List (ClassId × FieldType)) (b0 : Nat) (Amb : State → Heap → Prop) {y : MethodName} {ret : Option FieldType} {rm : Room} {c k : Nat} {args : List Value} {h : mm_S} (hpl : plainName y.cls = true) (hle : (lg_sl args).length ≤ nL)
    (key : ∀ (p : Program) (e : Env) (s : State) (m : MethodId) (below : List Frame) (meth : Method) (cd : Code), ZZ p s m args.toArray meth cd cc nL y.cls D tys b0 Amb T → meth.sig.returnType = ret → (∀ x ∈ cd.exceptionTable.toList, False) →
      mm_K p l e rm s m args.toArray below meth cd 0 0 (vx_MQ below (mm_Qc D tys b0 Q) (mm_XC D tys b0 Q) args.toArray s c k (mm_A b0)) nL D tys b0 s.heap (0, [], lv_args 0 args, h)) :
    vx_Met l y (Cond.code y cc nL ret :: T) rm (va_Pc args (mm_B D tys b0 Amb h)) (mm_Qc D tys b0 Q) (mm_XC D tys b0 Q) c k (mm_A b0) := by
  refine vx_ofW (cc := cc) (maxL := nL) (ret := ret) hpl rfl ?_
  intro p e s m args' below meth cd s₁ B hml hout hv
  obtain ⟨rfl, hrep, hK, hnw, hb0, hamb⟩ := hv
  have hts0 := atoms_spec (ws := Cond.code y cc nL ret :: T) B.pre
  have hts : ∀ w ∈ T, w.before args.toArray s = true := fun w hw => hts0 w (List.mem_cons_of_mem _ hw)
  rw [lg_entry_eq]
  exact key p e s m below meth cd ⟨B.exec, B.bytes, hml, hts, hnw, findClass_of_methodNamed B.named, hK, B.notSynchronized, hb0, hamb⟩ B.returns hout _ s.heap [] (lv_entry args hle) hrep va_S.rf
theorem zS (Z : ZZ p s m args meth cd cc nL own D tys b0 Amb T) (hA : mm_AL l D tys b0 Amb) {y : MethodName} {bytes : ByteArray} {maxL mc ms n idx pc : Nat} {ret : Option FieldType} {ws' : List Cond} {rm : Room} {h : mm_S} {As rest : List Value} {la : Array Slot}
    (hM : vx_Met l y (Cond.code y bytes maxL ret :: ws') rm (va_Pc As (mm_B D tys b0 Amb h)) (mm_Qc D tys b0 Q) (mm_XC D tys b0 Q) mc ms (mm_A b0)) (hG : GoodIn T (Cond.code y bytes maxL ret :: ws')) (h1 : Cond.methodLink own idx y ∈ T) (h2 : Cond.static y ∈ T) (h3 : Cond.initialized y.cls ∈ T)
    (hd : y.cls ≠ "java/lang/invoke/MethodHandle" ∧ y.cls ≠ "java/lang/invoke/VarHandle" ∧ (parseMethodDescriptor y.desc).map (fun d => d.parameters.length) = some n) (hrc : rm.cells = mc) (hrs : rm.slots = ms) (hR : rm.frames + 1 ≤ R.frames ∧ 8 + (maxL + 11) + rm.locals ≤ R.locals)
    (hf : cells + mc ≤ R.cells ∧ slots + ms ≤ R.slots) (hn : As.length = n) (hdg : decode cc pc = .ok (.invokestatic idx, 3)) (hw : mm_wd rest ≤ 8) (hl : la.size = nL) (hr : mm_rep D tys b0 h H) (hS : va_S (mm_A b0) s.heap H locs) :
    vx_Run p l e R s m args below meth cd H locs cells slots mc ms (F0 m pc la (As.reverse ++ rest)) rest (mm_Qc D tys b0 Q As.toArray) (mm_XC D tys b0 Q) (mm_A b0) := by
  obtain ⟨hx, hb, hml, hts, hnw, hown, hK, hlk, hb0, hamb⟩ := Z
  exact vx_runS ⟨hx, hb, hml, hown, hts⟩ hM ⟨callB_of n hts hG rfl hrc hrs (hts _ h3) (hts _ h1) hd hR, hts _ h2⟩ ⟨mm_blind hA _ _, mm_pre hA hb0 hamb hK hnw hr hS As⟩ rfl hn hl rfl (lv_room hw) hdg hf
theorem zV (Z : ZZ p s m args meth cd cc nL own D tys b0 Amb T) (hA : mm_AL l D tys b0 Amb) {y : MethodName} {bytes : ByteArray} {maxL mc ms n idx pc b : Nat} {ret : Option FieldType} {ws' : List Cond} {rm : Room} {h : mm_S} {As rest : List Value} {la : Array Slot}
    (hM : vx_Met l y (Cond.code y bytes maxL ret :: ws') rm (va_Pc (.ref b :: As) (mm_B D tys b0 Amb h)) (mm_Qc D tys b0 Q) (mm_XC D tys b0 Q) mc ms (mm_A b0)) (hG : GoodIn T (Cond.code y bytes maxL ret :: ws')) (h1 : Cond.methodLink own idx y ∈ T) (h2 : Cond.instanceMethod y ∈ T) (h4 : Cond.selects y.cls y y ∈ T) (h3 : Cond.initialized y.cls ∈ T)
    (hd : y.cls ≠ "java/lang/invoke/MethodHandle" ∧ y.cls ≠ "java/lang/invoke/VarHandle" ∧ (parseMethodDescriptor y.desc).map (fun d => d.parameters.length) = some n) (hrc : rm.cells = mc) (hrs : rm.slots = ms) (hR : rm.frames + 1 ≤ R.frames ∧ 8 + (maxL + 11) + rm.locals ≤ R.locals)
    (hrv : ∃ cellB : Cell, H[b]? = some cellB ∧ cellB.vm.isStatics = false ∧ s.vm.findClass y.cls = some cellB.cls)
    (hf : cells + mc ≤ R.cells ∧ slots + ms ≤ R.slots) (hn : As.length = n) (hdg : decode cc pc = .ok (.invokevirtual idx, 3)) (hw : mm_wd rest ≤ 8) (hl : la.size = nL) (hr : mm_rep D tys b0 h H) (hS : va_S (mm_A b0) s.heap H locs) :
    vx_Run p l e R s m args below meth cd H locs cells slots mc ms (F0 m pc la (As.reverse ++ .ref b :: rest)) rest (mm_Qc D tys b0 Q (Value.ref b :: As).toArray) (mm_XC D tys b0 Q) (mm_A b0) := by
  obtain ⟨hx, hb, hml, hts, hnw, hown, hK, hlk, hb0, hamb⟩ := Z
  exact vx_runV ⟨hx, hb, hml, hown, hts⟩ hM ⟨callB_of n hts hG rfl hrc hrs (hts _ h3) (hts _ h1) hd hR, hts _ h2, hts _ h4⟩ ⟨mm_blind hA _ _, hrv, mm_pre hA hb0 hamb hK hnw hr hS (.ref b :: As)⟩ rfl hn hl rfl (lv_room hw) hdg hf
end ZZ
def sx_len : List Nat := fx_texts.map List.length
def sx_byt : List (List Int32) := fx_texts.map (fun t => t.map nI)
/-- what is known of String, and of the nine texts -/
def zq_ (D : va_G) (b0 : Nat) (Amb : State → Heap → Prop) : Prop := ∀ (u : State) (H : Heap), Amb u H → va_Z "java/lang/String" "COMPACT_STRINGS" "Z" (.int 1) (mm_A b0) u H ∧ va_Zq "jdk/internal/util/Preconditions" "SIOOBE_FORMATTER" "Ljava/util/function/BiFunction;" (mm_A b0) u H ∧ vk_S 9 sx_len sx_byt (fun i => D.1 (100 + i)) (fun i => D.1 (200 + i)) (mm_A b0) u H
section SS
variable {l : Launch} {D : va_G} {tys : List (ClassId × FieldType)} {b0 : Nat} {Amb : State → Heap → Prop} {h : mm_S} {Q : mm_Re → Prop} {c k : Nat}
theorem zz_xw {w : Cond} (i : Nat) (h : mm_xw[i]? = some w) : w ∈ mm_W := mm_xin (List.mem_of_getElem? h)
theorem zz_g {w : Cond} (h : w ∈ mm_W) : GoodIn mm_W (w :: mm_W) := fun x hx => (List.mem_cons.mp hx).elim (fun e => e ▸ ⟨h, mm_goodW h⟩) (fun h2 => ⟨h2, mm_goodW h2⟩)
theorem s_J3 {j n : Int32} {v : Value} (hj : ¬ j < 0) (hjn : j < n) (hle : (lg_sl [.int j, .int n, v]).length ≤ 3) (hQ : Q (.inl (some (.int j)), h)) (rm : Room) : vx_Met l yJ3_checkIndex_8e157 (Cond.code yJ3_checkIndex_8e157 cJ3_checkIndex_8e157 3 (some .int) :: mm_W) rm (va_Pc [.int j, .int n, v] (mm_B D tys b0 Amb h)) (mm_Qc D tys b0 Q) (mm_XC D tys b0 Q) c k (mm_A b0) := by
  refine zz_in l D tys b0 Amb (by decide) hle fun p e s m below meth cd Z hret hout => ?_
  obtain ⟨hx, hb, hml, hts, hnw, hown, hK, hlk, hb0, hamb⟩ := Z
  intro la H locs hl hr hS
  have l0 := mm_at (i := 0) (v := .int j) hl rfl
  have l1 := mm_at (i := 1) (v := .int n) hl rfl
  refine lv_iload_n hx hb z3_0 rfl l0 ?_
  refine lv_if_lt hx hb z3_1 (tgt := 9) rfl (fun z => absurd z hj) (fun _ => ?_)
  refine lv_iload_n hx hb z3_4 rfl l0 ?_
  refine lv_iload_n hx hb z3_5 rfl l1 ?_
  refine lv_icmp_lt hx hb z3_6 (tgt := 16) rfl (fun _ => ?_) (fun z => absurd hjn z)
  refine lv_iload_n hx hb z3_16 rfl l0 ?_
  refine W.widen (k := c) (n := k) (Nat.zero_le _) (Nat.zero_le _) (vx_ret ?_)
  exact W.zret hx hb hret rfl (fun t ht hW => ⟨⟨_, h, rfl, hQ, by rw [ht]; exact hr⟩, hS.F ht⟩) hS.2.2 z3_17 (hlocks := hlk)
theorem s_J0i (hA : mm_AL l D tys b0 Amb) (hq : zq_ D b0 Amb) {j n : Int32} (hj : ¬ j < 0) (hjn : j < n) (hQ : Q (.inl none, h)) (rm : Room) (hf : 1 ≤ rm.frames) (hlo : 22 ≤ rm.locals) : vx_Met l yJ0_checkIndex_df160 (Cond.code yJ0_checkIndex_df160 cJ0_checkIndex_df160 2 none :: mm_W) rm (va_Pc [.int j, .int n] (mm_B D tys b0 Amb h)) (mm_Qc D tys b0 Q) (mm_XC D tys b0 Q) c k (mm_A b0) := by
  refine zz_in l D tys b0 Amb (by decide) (Nat.le_of_ble_eq_true rfl) fun p e s m below meth cd Z hret hout => ?_
  obtain ⟨hx, hb, hml, hts, hnw, hown, hK, hlk, hb0, hamb⟩ := id Z
  obtain ⟨-, q2, -⟩ := hq s s.heap hamb
  intro la H locs hl hr hS
  have l0 := mm_at (i := 0) (v := .int j) hl rfl
  have l1 := mm_at (i := 1) (v := .int n) hl rfl
  refine lv_iload_n hx hb zi_0 rfl l0 ?_
  refine lv_iload_n hx hb zi_1 rfl l1 ?_
  have key : ∀ v : Value, va_Z "jdk/internal/util/Preconditions" "SIOOBE_FORMATTER" "Ljava/util/function/BiFunction;" v (mm_A b0) s s.heap → (lg_sl [.int j, .int n, v]).length ≤ 3 → W p l e rm s m [Value.int j, Value.int n].toArray below meth cd H locs 0 0 (vx_MQ below (mm_Qc D tys b0 Q) (mm_XC D tys b0 Q) [Value.int j, Value.int n].toArray s c k (mm_A b0)) (F0 m 2 la [.int n, .int j]) := by
    intro v hv hle
    have hlk1 : mm_look (mm_lnk 13) 1053 = some (20, 1, 0) := by decide
    have w1 := hts _ (mm_row hlk1 _ List.mem_cons_self)
    refine va_gets hx hb hv hS hown w1 (fun x hx => hx) zi_2 ?_
    refine mm_called (mc := 0) (ms := 0) (rest := []) (Q2 := fun r => r = (.inl (some (.int j)), h)) (zS (rm := { frames := rm.frames - 1, cells := 0, slots := 0, locals := rm.locals - 22 }) (n := 3) (As := [.int j, .int n, v]) Z hA (s_J3 (Q := fun r => r = (.inl (some (.int j)), h)) hj hjn hle rfl { frames := rm.frames - 1, cells := 0, slots := 0, locals := rm.locals - 22 }) (zz_g (zz_xw 9 rfl)) (zz_xw 23 rfl) (zz_xw 24 rfl) (zz_xw 26 rfl) (by decide) rfl rfl ⟨by show rm.frames - 1 + 1 ≤ rm.frames; omega, by show 8 + (3 + 11) + (rm.locals - 22) ≤ rm.locals; omega⟩ (by omega) rfl zi_5 (by decide) hl.1 hr hS) hl hS hout hlk (Nat.zero_le _) (Nat.zero_le _) (fun v2 h2 e2 => ?_) (fun E h2 e2 => by cases e2)
    cases e2
    intro la2 H2 locs2 hl2 hr2 hS2
    refine lv_pop hx hb zi_8 rfl ?_
    refine W.widen (k := c) (n := k) (Nat.zero_le _) (Nat.zero_le _) (vx_ret ?_)
    exact W.vret hx hb hret (fun t ht hW => ⟨⟨_, h, rfl, hQ, by rw [ht]; exact hr2⟩, hS2.F ht⟩) hS2.2.2 zi_9 (hlocks := hlk)
  rcases q2 with hv | ⟨t, hv⟩
  · exact key .null hv (Nat.le_of_ble_eq_true rfl)
  · exact key (.ref t) hv (Nat.le_of_ble_eq_true rfl)
theorem s_J0c (hq : zq_ D b0 Amb) {i : Nat} (hi : i < 9) (hQ : Q (.inl (some (.int 0)), h)) (rm : Room) : vx_Met l yJ0_coder_7d493 (Cond.code yJ0_coder_7d493 cJ0_coder_7d493 1 (some .byte) :: mm_W) rm (va_Pc [.ref (D.1 (100 + i))] (mm_B D tys b0 Amb h)) (mm_Qc D tys b0 Q) (mm_XC D tys b0 Q) c k (mm_A b0) := by
  refine zz_in l D tys b0 Amb (by decide) (Nat.le_of_ble_eq_true rfl) fun p e s m below meth cd Z hret hout => ?_
  obtain ⟨hx, hb, hml, hts, hnw, hown, hK, hlk, hb0, hamb⟩ := id Z
  obtain ⟨q1, -, q3⟩ := hq s s.heap hamb
  obtain ⟨-, q4, -, -⟩ := q3.1 i hi
  intro la H locs hl hr hS
  have l0 := mm_at (i := 0) (v := .ref (D.1 (100 + i))) hl rfl
  have hlk1 : mm_look (mm_lnk 13) 38 = some (20, 0, 0) := by decide
  refine va_gets hx hb q1 hS hown (hts _ (mm_row hlk1 _ List.mem_cons_self)) (fun x hx => hx) zc_0 ?_
  refine lv_if_eq hx hb zc_3 (tgt := 13) rfl (fun z => absurd z (by decide)) (fun _ => ?_)
  refine lv_aload_n hx hb zc_6 rfl l0 ?_
  refine vk_getf hx hb q4 hS hown (hts _ (zz_xw 11 rfl)) (fun _ z => z) zc_7 ?_
  refine lv_goto hx hb zc_10 (tgt := 14) rfl ?_
  refine W.widen (k := c) (n := k) (Nat.zero_le _) (Nat.zero_le _) (vx_ret ?_)
  exact W.zret hx hb hret (by decide) (fun t ht hW => ⟨⟨_, h, rfl, hQ, by rw [ht]; exact hr⟩, hS.F ht⟩) hS.2.2 zc_14 (hlocks := hlk)
theorem s_J0l (hq : zq_ D b0 Amb) {i : Nat} (hi : i < 9) (hQ : Q (.inl (some (.int 1)), h)) (rm : Room) : vx_Met l yJ0_isLatin1_aae02 (Cond.code yJ0_isLatin1_aae02 cJ0_isLatin1_aae02 1 (some .boolean) :: mm_W) rm (va_Pc [.ref (D.1 (100 + i))] (mm_B D tys b0 Amb h)) (mm_Qc D tys b0 Q) (mm_XC D tys b0 Q) c k (mm_A b0) := by
  refine zz_in l D tys b0 Amb (by decide) (Nat.le_of_ble_eq_true rfl) fun p e s m below meth cd Z hret hout => ?_
  obtain ⟨hx, hb, hml, hts, hnw, hown, hK, hlk, hb0, hamb⟩ := id Z
  obtain ⟨q1, -, q3⟩ := hq s s.heap hamb
  obtain ⟨-, q4, -, -⟩ := q3.1 i hi
  intro la H locs hl hr hS
  have l0 := mm_at (i := 0) (v := .ref (D.1 (100 + i))) hl rfl
  have hlk1 : mm_look (mm_lnk 13) 38 = some (20, 0, 0) := by decide
  refine va_gets hx hb q1 hS hown (hts _ (mm_row hlk1 _ List.mem_cons_self)) (fun x hx => hx) zl_0 ?_
  refine lv_if_eq hx hb zl_3 (tgt := 17) rfl (fun z => absurd z (by decide)) (fun _ => ?_)
  refine lv_aload_n hx hb zl_6 rfl l0 ?_
  refine vk_getf hx hb q4 hS hown (hts _ (zz_xw 11 rfl)) (fun _ z => z) zl_7 ?_
  refine lv_if_ne hx hb zl_10 (tgt := 17) rfl (fun z => absurd rfl z) (fun _ => ?_)
  refine lv_iconst hx hb zl_13 (v := 1) rfl ?_
  refine lv_goto hx hb zl_14 (tgt := 18) rfl ?_
  refine W.widen (k := c) (n := k) (Nat.zero_le _) (Nat.zero_le _) (vx_ret ?_)
  exact W.zret hx hb hret (by decide) (fun t ht hW => ⟨⟨_, h, rfl, hQ, by rw [ht]; exact hr⟩, hS.F ht⟩) hS.2.2 zl_18 (hlocks := hlk)
theorem s_J1a (hA : mm_AL l D tys b0 Amb) (hq : zq_ D b0 Amb) {i : Nat} (hi : i < 9) {j v : Int32} (hj : ¬ j < 0) (hjn : j < Int32.ofNat (sx_len.getD i 0)) (hin : vp_in j (sx_len.getD i 0))
    (hv : ((((sx_byt.getD i []).getD j.toNatClampNeg 0) &&& 255).toUInt32 % 65536).toInt32 = v) (hnv : narrow .char (.int v) = .int v) (hQ : Q (.inl (some (.int v)), h)) (rm : Room) (hf : 2 ≤ rm.frames) (hlo : 43 ≤ rm.locals) : vx_Met l yJ1_charAt_3b067 (Cond.code yJ1_charAt_3b067 cJ1_charAt_3b067 2 (some .char) :: mm_W) rm (va_Pc [.ref (D.1 (200 + i)), .int j] (mm_B D tys b0 Amb h)) (mm_Qc D tys b0 Q) (mm_XC D tys b0 Q) c k (mm_A b0) := by
  refine zz_in l D tys b0 Amb (by decide) (Nat.le_of_ble_eq_true rfl) fun p e s m below meth cd Z hret hout => ?_
  obtain ⟨hx, hb, hml, hts, hnw, hown, hK, hlk, hb0, hamb⟩ := id Z
  obtain ⟨-, -, q3⟩ := hq s s.heap hamb
  obtain ⟨-, -, -, hT⟩ := q3.1 i hi
  intro la H locs hl hr hS
  have l0 := mm_at (i := 0) (v := .ref (D.1 (200 + i))) hl rfl
  have l1 := mm_at (i := 1) (v := .int j) hl rfl
  refine lv_iload_n hx hb z1_0 rfl l1 ?_
  refine lv_aload_n hx hb z1_1 rfl l0 ?_
  refine va_tlen hx hb hT hS rfl z1_2 ?_
  refine mm_called (mc := 0) (ms := 0) (rest := []) (Q2 := fun r => r = (.inl none, h)) (zS (rm := { frames := rm.frames - 1, cells := 0, slots := 0, locals := rm.locals - 21 }) (n := 2) (As := [.int j, .int (Int32.ofNat (sx_len.getD i 0))]) Z hA (s_J0i (Q := fun r => r = (.inl none, h)) hA hq hj hjn rfl { frames := rm.frames - 1, cells := 0, slots := 0, locals := rm.locals - 21 } (by show 1 ≤ rm.frames - 1; omega) (by show 22 ≤ rm.locals - 21; omega)) (show GoodIn mm_W (Cond.code yJ0_checkIndex_df160 cJ0_checkIndex_df160 2 none :: mm_W) from zz_g (mm_code_in (y := 264) (by decide))) (zz_xw 21 rfl) (zz_xw 22 rfl) (zz_xw 18 rfl) (by decide) rfl rfl ⟨by show rm.frames - 1 + 1 ≤ rm.frames; omega, by show 8 + (2 + 11) + (rm.locals - 21) ≤ rm.locals; omega⟩ (by omega) rfl z1_3 (Nat.zero_le 8) hl.1 hr hS) hl hS hout hlk (Nat.zero_le _) (Nat.zero_le _) (fun v2 h2 e2 => ?_) (fun E h2 e2 => by cases e2)
  cases e2
  intro la2 H2 locs2 hl2 hr2 hS2
  have l0 := mm_at (i := 0) (v := .ref (D.1 (200 + i))) hl2 rfl
  have l1 := mm_at (i := 1) (v := .int j) hl2 rfl
  refine lv_aload_n hx hb z1_6 rfl l0 ?_
  refine lv_iload_n hx hb z1_7 rfl l1 ?_
  refine va_tb hx hb hT hS2 hin rfl z1_8 ?_
  refine lv_sipush hx hb z1_9 (v := 255) (by decide) ?_
  refine lv_iand hx hb z1_12 ?_
  refine lv_i2c hx hb z1_13 hv ?_
  refine W.widen (k := c) (n := k) (Nat.zero_le _) (Nat.zero_le _) (vx_ret ?_)
  exact W.zret hx hb hret hnv (fun t ht hW => ⟨⟨_, h, rfl, hQ, by rw [ht]; exact hr2⟩, hS2.F ht⟩) hS2.2.2 z1_14 (hlocks := hlk)
end SS

/-! what the machine gives beside the world: statics, texts, words; and the throws -/
theorem ns_throw {p : Program} {l : Launch} {e : Env} {R : Room} {s : State} {m : MethodId} {args : Array Value} {below : List Frame} {meth : Method} {c : Code} {H : Heap} {locs : List Loc} {cells slots : Nat} {Qc : Array Value → State → Outcome → State → Prop} {XC : String → State → State → Prop} {free : Addr → Prop} {ls : Array Slot} {rest : List Value}
    {cc : ByteArray} {pc : Nat} (hexec : p.tables.exec = Jvm.exec) (hb : c.code = cc) (hl : l.stackTraces = false) {text : String} {is mc ms sa : Nat} {A : Nat → Prop}
    (hown : s.vm.findClass RX5 = some m.cls) (hk : (Cond.classLink RX5 257 mm_nsX).before args s = true) (hini : (Cond.initialized mm_nsX).before args s = true) (hstr : vk_R RX5 is text sa s) (hat : ∀ w ∈ mm_nsA.filter vx_no, w.before args s = true)
    (hgood : ∀ w ∈ Cond.classLink RX5 257 mm_nsX :: Cond.initialized mm_nsX :: mm_nsA.filter vx_no, vx_ot w = true)
    (hU : vx_Zq Bundle.tN "UNASSIGNED_STACK" Bundle.steD A s s.heap) (hN : vx_Zq Bundle.tN "SUPPRESSED_SENTINEL" Bundle.listD A s s.heap) (hS : va_S A s.heap H locs) (hsize : ls.size = c.maxLocals)
    (d0 : decode cc pc = .ok (.new 257, 3)) (d3 : decode cc (pc + 3) = .ok (.dup, 1)) (d4 : decode cc (pc + 4) = .ok (.ldc_w is, 3)) (d7 : decode cc (pc + 7) = .ok (.invokespecial 261, 3)) (d10 : decode cc (pc + 10) = .ok (.athrow, 1))
    (hout : ∀ x ∈ c.exceptionTable.toList, covers x (pc + 10) = false)
    (hRframes : 5 < R.frames) (hRlocals : (rest.map fun v => v.category).sum + 82 ≤ R.locals) (hRcells : cells + 1 ≤ R.cells) (hRslots : slots + 6 ≤ R.slots) (hlocks : meth.locks = false)
    (hx : ∀ t : State, s.vm.Alike t.vm → H.size ≤ t.heap.size → (∀ q : Nat, q < H.size → t.heap[q]? = H[q]?) → XC mm_nsX s t)
    (hf : ∀ z ∈ locs, free z.base) (hc : cells + 1 ≤ mc) (hs : slots + 6 ≤ ms) :
    W p l e R s m args below meth c H locs cells slots (vx_MQ below Qc XC args s mc ms free) (F0 m pc ls rest) := by
  intro T hT X
  have htr : e.platform.stackTraces = false := (show e.platform.stackTraces = l.stackTraces by rw [X.admits.platform]).trans hl
  have Y := vx_rebase X (R' := { frames := R.frames, locals := R.locals, cells := 1, slots := 6 }) (Nat.le_refl _) (Nat.le_refl _) hRcells hRslots
  obtain ⟨s', hA⟩ : ∃ z, z = (T.setVm s.vm).setFrames (.invoking m args :: below) := ⟨_, rfl⟩
  rw [← hA] at Y
  have hvm : s'.vm = s.vm := by rw [hA]; rfl
  have hhp : s'.heap = H := by rw [hA]; exact hT
  have hW0 : s.WarmedH s'.vm := by rw [hvm]; exact State.WarmedH.refl s
  have hat' : ∀ w ∈ mm_nsA.filter vx_no, w.before args s' = true := fun w hw => vx_ot_at hW0 hvm.symm (hgood w (List.mem_cons_of_mem _ (List.mem_cons_of_mem _ hw))) (hat w hw)
  have hk' : (Cond.classLink RX5 257 mm_nsX).before args s' = true := vx_ot_at hW0 hvm.symm (hgood _ List.mem_cons_self) hk
  have hini' : (Cond.initialized mm_nsX).before args s' = true := vx_ot_at hW0 hvm.symm (hgood _ (List.mem_cons_of_mem _ List.mem_cons_self)) hini
  have hU' : vx_Zq Bundle.tN "UNASSIGNED_STACK" Bundle.steD A s' s'.heap := by rw [hhp]; exact vx_Zq.moved hW0.alike (hU.kept hS.2.1)
  have hN' : vx_Zq Bundle.tN "SUPPRESSED_SENTINEL" Bundle.listD A s' s'.heap := by rw [hhp]; exact vx_Zq.moved hW0.alike (hN.kept hS.2.1)
  have h : ∀ w ∈ mm_nsA, w.before args s' = true := vx_own hat' (vx_isRefq hU'.1) (vx_isRefq hN'.1) hU'.2.word hN'.2.word
  have hown' : s'.vm.findClass RX5 = some m.cls := by rw [hvm]; exact hown
  obtain ⟨vm₁, cX, kX, hfX, hkX, -, -, X₁, st1⟩ := Y.newCold hexec (own := RX5) (C := mm_nsX) (index := 257) (n := 6) hown' hk' (ns_in (ns_mem (i := 1) rfl) h) hini'
    (g := F0 m pc ls rest) rfl (by rw [hb]; exact d0) (Nat.le_refl _) (Nat.le_refl _)
  generalize hT1 : (T.setVm vm₁).pushCell { cls := cX, slots := kX.instanceTypes.map defaultValue, vm := .none } = T1 at X₁ st1
  have hcat : (Value.ref T.heap.size).category = 1 := rfl
  have hcellA : T1.heap[T.heap.size]? = some (freshCell cX kX) := by rw [← hT1]; exact State.heap_pushCell_size _ _
  have d3' : decode c.code (pc + 3) = .ok (.dup, 1) := by rw [hb]; exact d3
  have d4' : decode c.code (pc + 4) = .ok (.ldc_w is, 3) := by rw [hb]; exact d4
  have hstr' : vk_R RX5 is text sa s' := vk_R.warm hW0 hstr
  obtain ⟨U, hsteps, hrun, hend, hW, hsame, ce, hce, hcl9, hcv9⟩ := ns_ctor X₁ hexec htr hown' h (fun x hx => nomatch hx) hfX hkX hcellA (by rw [hhp, hT]; exact Nat.le_refl _) (msg := .ref sa) rfl
    (g := { method := m, pc := pc + 7, locals := ls, stack := .ref sa :: .ref T.heap.size :: .ref T.heap.size :: rest, locked := none }) rfl hsize rfl rfl (rest := rest) rfl
    (by rw [hb]; exact d7) (by rw [hb]; exact d10) hout hRframes (by simp only [List.map_cons, List.sum_cons, hcat]; omega) hlocks
  obtain ⟨f1, f2⟩ := vx_frame hsame
  rw [hhp] at f1 f2
  have hWs : s.WarmedH U.vm := State.WarmedH.trans hW0 hW
  have hcl : s.vm.findClass mm_nsX = some ce.cls := by
    rw [hvm] at hcl9
    exact hcl9
  have hall : s.sameButNew ({ U with vm := s.vm } : State) locs mc ms := by
    subst hA
    obtain ⟨e1, e2⟩ := hsame
    rw [State.setFrames_setFrames] at e1
    have h2 : (T.setVm s.vm).sameButNew ({ U with vm := s.vm } : State) [] (0 + 1) (0 + 6) := ⟨e1, e2⟩
    have h3 := X.same.trans h2
    rw [List.append_nil] at h3
    exact h3.mono hc hs
  refine ⟨U, ?_, .threw T.heap.size, hrun, hend, Or.inr ⟨T.heap.size, rfl, mm_nsX, ce, locs, hx U hWs.alike f1 (fun q hq => f2 q hq (fun z hz => nomatch hz)), hce, hcv9, hcl, hWs, hall, hf⟩⟩
  refine st1 _ ?_
  show Steps p.tables e below (T1.setTop { method := m, pc := pc + 3, locals := ls, stack := .ref T.heap.size :: rest, locked := none }) _
  jvm_step X₁.here [X₁.here.top, hexec, d3', Value.category]
  exact X₁.ldcStringW hexec (own := RX5) (text := text) (index := is) (a := sa) hown' hstr'.1 hstr'.2
    (g := { method := m, pc := pc + 4, locals := ls, stack := .ref T.heap.size :: .ref T.heap.size :: rest, locked := none }) rfl d4' _ hsteps
/-- the words of throws that no walk keeps by itself -/
def am_ns : List String := ["java/lang/RuntimeException", "java/lang/Exception"]
def am_e (i : Nat) : Nat × Nat × String := ([(76, 80, "java/lang/UnsupportedOperationException"), (158, 162, "java/lang/IndexOutOfBoundsException"), (190, 194, "java/lang/IllegalArgumentException"), (257, 261, "java/util/NoSuchElementException"), (358, 362, "java/lang/IllegalStateException"), (425, 429, "java/lang/ArithmeticException")] : List (Nat × Nat × String)).getD i (0, 0, "")
def am_L (i : Nat) : List Cond := if i = 3 then mm_nsA.filter vx_no else vx_atS RX5 (am_e i).2.1 (am_e i).2.2 am_ns
def am_b (i : Nat) : List Cond := (am_L i).filter (fun w => !goodWord w)
def am_B : List Cond := (List.range 6).flatMap am_b
def am_dc : Cond → Bool
  | .declares _ => true
  | .castable _ _ => true
  | _ => false
theorem am_dcs : ∀ w ∈ am_B, am_dc w = true := by decide +kernel
theorem am_in : ∀ w ∈ am_B, w ∈ lw_tbl := by decide +kernel
/-- the pairs of classes that are told apart where a second handler catches -/
def am_P : List (String × String) := [("java/lang/IllegalArgumentException", "java/lang/IndexOutOfBoundsException"), ("java/util/NoSuchElementException", "java/lang/IndexOutOfBoundsException"), ("java/util/NoSuchElementException", "java/lang/IllegalArgumentException"), ("java/lang/IllegalStateException", "java/lang/IllegalArgumentException"), ("java/lang/UnsupportedOperationException", "java/lang/IllegalArgumentException")]
theorem am_warm {w : Cond} {s U : State} (hd : am_dc w = true) (hW : s.WarmedH U.vm) (h : va_Nw w s) : va_Nw w U := by
  cases w <;> first | exact va_Nw.warmD hW h | exact va_Nw.warmC hW h | (cases hd)
theorem am_AO2 {u U : State} (hvm : u.vm.Alike U.vm) (h : (Cond.arrayOver (.array .int)).before #[] u = true) : (Cond.arrayOver (.array .int)).before #[] U = true := by
  obtain ⟨comp, c, k, h1, h2, h3, h4, h5⟩ := arrayOverA_spec h
  obtain ⟨k', hk', he⟩ := hvm.2.2 _ _ h3
  have e0 := va_idx_bare U.vm comp
  have e1 := va_idx_bare u.vm comp
  first | rw [hvm.bare_eq] at e1 | rw [← hvm.bare_eq] at e1
  have hi := (e0.symm.trans e1).trans h2
  have hkind : k'.kind = .array comp (.array .int) := by rw [he]; exact h4
  have f1 : U.vm.findClass (FieldType.array .int).toString = some comp := by rw [hvm.findClass]; exact h1
  have f2 : U.vm.findClass ("[" ++ (FieldType.array .int).toString) = some c := by rw [hvm.findClass]; exact h5
  unfold Cond.before Cond.holds
  simp only [Cond.value]
  rw [f1, Option.bind_some]
  refine (congrArg (fun o : Option Nat => (o.bind (fun c => (U.vm.classes[c]?).map fun (k : Class) => match k.kind with | .array _ ty => decide (ty = FieldType.array .int) && decide (U.vm.findClass ("[" ++ (FieldType.array .int).toString) = some c) | _ => false) == some true)) hi).trans ?_
  simp [hk', hkind, f2]
/-- what the machine gives beside the world -/
def Am_ (D : va_G) (b0 : Nat) (u : State) (H : Heap) : Prop :=
  va_Z "java/lang/String" "COMPACT_STRINGS" "Z" (.int 1) (mm_A b0) u H ∧ va_Zq "jdk/internal/util/Preconditions" "SIOOBE_FORMATTER" "Ljava/util/function/BiFunction;" (mm_A b0) u H ∧ vk_S 9 sx_len sx_byt (fun i => D.1 (100 + i)) (fun i => D.1 (200 + i)) (mm_A b0) u H ∧
  (∀ i : Nat, i < 9 → ∃ tx : String, vk_R RX1 (31 + 2 * i) tx (D.1 (100 + i)) u) ∧
  (∃ (t : Nat) (f : Nat → Value) (t2 : Nat) (f2 : Nat → Value), va_Z "java/lang/Integer" "DigitOnes" "[B" (.ref t) (mm_A b0) u H ∧ va_T .byte t 100 f (mm_A b0) u H ∧ va_Z "java/lang/Integer" "DigitTens" "[B" (.ref t2) (mm_A b0) u H ∧ va_T .byte t2 100 f2 (mm_A b0) u H ∧ ∀ n, n < 100 → f n = .int (nI (n % 10 + 48)) ∧ f2 n = .int (nI (n / 10 + 48))) ∧
  (∀ a : Nat, a < mm_thr.length → ∃ (tx : String) (sa : Nat), vk_R RX5 (mm_th a).2.2.1 tx sa u) ∧
  vx_Zq Bundle.tN "UNASSIGNED_STACK" Bundle.steD (mm_A b0) u H ∧ vx_Zq Bundle.tN "SUPPRESSED_SENTINEL" Bundle.listD (mm_A b0) u H ∧
  (∀ w ∈ am_B, va_Nw w u) ∧ (∀ q ∈ am_P, va_Nc q.1 q.2 u) ∧ (va_AO RX0 u ∧ va_AO RX2 u ∧ va_AO RX3 u ∧ (Cond.arrayOver (.array .int)).before #[] u = true)
section AM
variable {l : Launch} {D : va_G} {tys : List (ClassId × FieldType)} {b0 : Nat}
theorem Am_go {u U : State} {H H1 : Heap} (hW : u.WarmedH U.vm) (hq0 : ∀ q : Nat, q < b0 → H1[q]? = H[q]?) (h : Am_ D b0 u H) : Am_ D b0 U H1 := by
  have hq : ∀ a : Nat, a < H.size → ¬ mm_A b0 a → H1[a]? = H[a]? := fun a _ ha => hq0 a (Nat.not_le.mp ha)
  obtain ⟨h1, h2, h3, h4, ⟨t, f, t2, f2, g1, g2, g3, g4, g5⟩, h6, h7, h8, h9, h10, h11, h12, h13, h14⟩ := h
  have hv := hW.alike
  refine ⟨va_Z.moved hv (h1.kept hq), ?_, vk_S.moved hv (h3.kept hq), fun i hi => ?_, ⟨t, f, t2, f2, va_Z.moved hv (g1.kept hq), va_T.moved hv (g2.kept hq), va_Z.moved hv (g3.kept hq), va_T.moved hv (g4.kept hq), g5⟩, fun a ha => ?_, vx_Zq.moved hv (h7.kept hq), vx_Zq.moved hv (h8.kept hq), fun w hw => am_warm (am_dcs w hw) hW (h9 w hw), fun q hq => va_Nc.moved hv (h10 q hq), va_AO.moved hv h11, va_AO.moved hv h12, va_AO.moved hv h13, am_AO2 hv h14⟩
  · rcases h2 with h2 | ⟨t, h2⟩
    · exact .inl (va_Z.moved hv (h2.kept hq))
    · exact .inr ⟨t, va_Z.moved hv (h2.kept hq)⟩
  · obtain ⟨tx, h5⟩ := h4 i hi
    exact ⟨tx, vk_R.warm hW h5⟩
  · obtain ⟨tx, sa, h5⟩ := h6 a ha
    exact ⟨tx, sa, vk_R.warm hW h5⟩
theorem am_zq : zq_ D b0 (Am_ D b0) := fun _ _ h => ⟨h.1, h.2.1, h.2.2.1⟩
theorem am_zr : zr_ D (Am_ D b0) := fun _ _ h => h.2.2.2.1
theorem am_D2 : va_D2 b0 (Am_ D b0) := fun _ _ h => h.2.2.2.2.1
theorem am_g0 : ∀ w ∈ Cond.classLink RX5 (am_e 0).1 (am_e 0).2.2 :: Cond.initialized (am_e 0).2.2 :: am_L 0, vx_ot w = true := by decide +kernel
theorem am_g1 : ∀ w ∈ Cond.classLink RX5 (am_e 1).1 (am_e 1).2.2 :: Cond.initialized (am_e 1).2.2 :: am_L 1, vx_ot w = true := by decide +kernel
theorem am_g2 : ∀ w ∈ Cond.classLink RX5 (am_e 2).1 (am_e 2).2.2 :: Cond.initialized (am_e 2).2.2 :: am_L 2, vx_ot w = true := by decide +kernel
theorem am_g3 : ∀ w ∈ Cond.classLink RX5 (am_e 3).1 (am_e 3).2.2 :: Cond.initialized (am_e 3).2.2 :: am_L 3, vx_ot w = true := by decide +kernel
theorem am_g4 : ∀ w ∈ Cond.classLink RX5 (am_e 4).1 (am_e 4).2.2 :: Cond.initialized (am_e 4).2.2 :: am_L 4, vx_ot w = true := by decide +kernel
theorem am_g5 : ∀ w ∈ Cond.classLink RX5 (am_e 5).1 (am_e 5).2.2 :: Cond.initialized (am_e 5).2.2 :: am_L 5, vx_ot w = true := by decide +kernel
theorem am_g {i : Nat} (hi : i < 6) : ∀ w ∈ Cond.classLink RX5 (am_e i).1 (am_e i).2.2 :: Cond.initialized (am_e i).2.2 :: am_L i, vx_ot w = true := by
  match i, hi with
  | 0, _ => exact am_g0
  | 1, _ => exact am_g1
  | 2, _ => exact am_g2
  | 3, _ => exact am_g3
  | 4, _ => exact am_g4
  | 5, _ => exact am_g5
  | j + 6, h => exact absurd h (by omega)
/-- the good words of throw i are among the words -/
theorem am_t {i : Nat} (hi : i < 6) : ∀ w ∈ Cond.classLink RX5 (am_e i).1 (am_e i).2.2 :: Cond.initialized (am_e i).2.2 :: (am_L i).filter goodWord, w ∈ mm_tw := by
  match i, hi with
  | 0, _ => exact fun w h => List.mem_append_left _ h
  | 1, _ => exact fun w h => List.mem_append_right _ (List.mem_append_left _ h)
  | 2, _ => exact fun w h => List.mem_append_right _ (List.mem_append_right _ (List.mem_append_left _ h))
  | 3, _ => exact fun w h => List.mem_append_right _ (List.mem_append_right _ (List.mem_append_right _ (List.mem_append_left _ h)))
  | 4, _ => exact fun w h => List.mem_append_right _ (List.mem_append_right _ (List.mem_append_right _ (List.mem_append_right _ (List.mem_append_left _ h))))
  | 5, _ => exact fun w h => List.mem_append_right _ (List.mem_append_right _ (List.mem_append_right _ (List.mem_append_right _ (List.mem_append_right _ h))))
  | j + 6, h => exact absurd h (by omega)
theorem am_tW {w : Cond} (h : w ∈ mm_tw) : w ∈ mm_W := List.mem_append_right _ (List.mem_append_right _ (List.mem_append_right _ (List.mem_append_left _ h)))
/-- each place of throwing -/
theorem am_site : ∀ a, a < mm_thr.length → (mm_th a).1 = 5 ∧ (mm_th a).2.2.2.2.1 < 6 ∧ (mm_th a).2.1 = (am_e (mm_th a).2.2.2.2.1).1 ∧ (mm_th a).2.2.2.1 = (am_e (mm_th a).2.2.2.2.1).2.1 ∧ mm_exc.getD (mm_th a).2.2.2.2.1 "" = (am_e (mm_th a).2.2.2.2.1).2.2 ∧ ((mm_th a).2.2.2.2.1 = 3 → (mm_th a).2.2.2.2.2 = 1) := by decide +kernel
theorem am_fit : ∀ i, i < 6 → Bundle.fit (am_e i).2.2 = true := by decide +kernel
theorem am_fitn : ∀ n ∈ am_ns, Bundle.fit n = true := by decide +kernel
/-- the laws of what is given beside -/
theorem am_AL (hl : l.stackTraces = false) : mm_AL l D tys b0 (Am_ D b0) := by
  refine ⟨fun u U H H1 hW _ hq h => Am_go hW hq h, fun u U H hv h => Am_go (hv ▸ State.WarmedH.refl u) (fun _ _ => rfl) h, fun u H h => ⟨h.2.2.2.2.2.2.2.2.2.2.1, h.2.2.2.2.2.2.2.2.2.2.2.1, h.2.2.2.2.2.2.2.2.2.2.2.2.1, h.2.2.2.2.2.2.2.2.2.2.2.2.2⟩, fun u H h i hi => ?_, ?_⟩
  · obtain ⟨cell, g1, g2, g3, g4⟩ := (h.2.2.1.1 i hi).1
    exact ⟨Nat.not_le.mp g4, cell, g1, g2, g3⟩
  · intro p e R s m args below meth c H locs cells slots mc ms cc nL o ini Qc XC i a b pc la rest CX ham hb0 hb16 htk hd hS hsz hout hw hR1 hR2 hR3 hR4 hc hs hlocks hx
    obtain ⟨hex, hb, hml, hts, hnw, hown, hini, hK, hty⟩ := CX
    obtain ⟨-, -, -, -, -, h6, h7, h8, h9, -⟩ := ham
    have hsum : (rest.map fun v => v.category).sum ≤ 8 := hw
    have fact : a < mm_thr.length ∧ (mm_th a).1 = o ∧ (mm_th a).2.1 = i ∧ (((mm_th a).2.2.2.2.2 = 0 ∧ decode cc (pc + 3) = .ok (.dup, 1) ∧ decode cc (pc + 4) = .ok (.ldc (mm_th a).2.2.1, 2) ∧ decode cc (pc + 6) = .ok (.invokespecial (mm_th a).2.2.2.1, 3) ∧ decode cc (pc + 9) = .ok (.athrow, 1)) ∨
        ((mm_th a).2.2.2.2.2 = 1 ∧ decode cc (pc + 3) = .ok (.dup, 1) ∧ decode cc (pc + 4) = .ok (.ldc_w (mm_th a).2.2.1, 3) ∧ decode cc (pc + 7) = .ok (.invokespecial (mm_th a).2.2.2.1, 3) ∧ decode cc (pc + 10) = .ok (.athrow, 1))) := by
      unfold mm_tk at htk
      rcases hb16 with rfl | rfl
      · dsimp only at htk
        rw [if_pos rfl] at htk
        simp only [Bool.and_eq_true, decide_eq_true_eq] at htk
        obtain ⟨⟨⟨⟨⟨⟨⟨k1, k2⟩, k3⟩, k4⟩, k5⟩, k6⟩, k7⟩, k8⟩ := htk
        exact ⟨k4, k1, k2, .inl ⟨k3, k5, k6, k7, k8⟩⟩
      · dsimp only at htk
        rw [if_neg (by decide), if_pos rfl] at htk
        simp only [Bool.and_eq_true, decide_eq_true_eq] at htk
        obtain ⟨⟨⟨⟨⟨⟨⟨k1, k2⟩, k3⟩, k4⟩, k5⟩, k6⟩, k7⟩, k8⟩ := htk
        exact ⟨k4, k1, k2, .inr ⟨k3, k5, k6, k7, k8⟩⟩
    obtain ⟨ha, ho, hi, hkind⟩ := fact
    obtain ⟨s1, s2, s3, s4, s5, s6⟩ := am_site a ha
    obtain ⟨tx, sa, hstr⟩ := h6 a ha
    rw [s5] at hx
    rw [s4] at hkind
    have hownX : s.vm.findClass RX5 = some m.cls := by
      rw [← ho, s1] at hown
      exact hown
    have d0 : decode cc pc = .ok (.new (am_e (mm_th a).2.2.2.2.1).1, 3) := by
      rw [hi] at s3
      rw [← s3]
      exact hd
    generalize (mm_th a).2.2.2.2.1 = j at *
    have hk : (Cond.classLink RX5 (am_e j).1 (am_e j).2.2).before args s = true := hts _ (am_tW (am_t s2 _ List.mem_cons_self))
    have hin : (Cond.initialized (am_e j).2.2).before args s = true := hts _ (am_tW (am_t s2 _ (List.mem_cons_of_mem _ List.mem_cons_self)))
    have hat : ∀ w ∈ am_L j, w.before args s = true := vx_hat (B := am_b j) (fun w hw => hts _ (am_tW (am_t s2 _ (List.mem_cons_of_mem _ (List.mem_cons_of_mem _ hw))))) (fun w hw => hw) (fun w hw => by
      have hwB : w ∈ am_B := List.mem_flatMap.mpr ⟨j, List.mem_range.mpr s2, hw⟩
      have hd9 := am_dcs w hwB
      refine va_Nw.use ?_ (h9 w hwB)
      cases w <;> first | rfl | (cases hd9))
    have hg := am_g s2
    by_cases e3 : j = 3
    · subst e3
      rcases hkind with ⟨k0, -⟩ | ⟨-, k5, k6, k7, k8⟩
      · rw [s6 rfl] at k0
        cases k0
      · exact ns_throw hex hb hl hownX hk hin hstr hat hg h7 h8 hS (hsz.trans hml.symm) d0 k5 k6 k7 k8 (fun x hx => (hout x hx).elim) (by omega) (by omega) hR3 hR4 hlocks hx hS.2.2 hc hs
    · have eL : am_L j = vx_atS RX5 (am_e j).2.1 (am_e j).2.2 am_ns := if_neg e3
      rw [eL] at hat hg
      rcases hkind with ⟨-, k5, k6, k7, k8⟩ | ⟨-, k5, k6, k7, k8⟩
      · exact vx_throwS hex hb hl hownX (am_fit j s2) am_fitn hk hin hstr hat hg h7 h8 hS (hsz.trans hml.symm) d0 k5 k6 k7 k8 (fun x hx => (hout x hx).elim) (by show 2 + 3 < _; omega) (by show _ + (13 * (2 + 1) + 43) ≤ _; omega) hR3 hR4 hlocks hx hS.2.2 hc hs
      · exact vx_throwSW hex hb hl hownX (am_fit j s2) am_fitn hk hin hstr hat hg h7 h8 hS (hsz.trans hml.symm) d0 k5 k6 k7 k8 (fun x hx => (hout x hx).elim) (by show 2 + 3 < _; omega) (by show _ + (13 * (2 + 1) + 43) ≤ _; omega) hR3 hR4 hlocks hx hS.2.2 hc hs
end AM

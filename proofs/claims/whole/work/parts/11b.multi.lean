/-! an array of arrays of ints, made at one stroke -/
section MU
def mu_o (cA : ClassId) (n b i : Nat) : Cell := arrV cA n (fun j => va_rf (if j < i then some (b + 1 + j) else none))
def mu_c (cC : ClassId) (m : Nat) : Cell := arrV cC m (fun _ => .int 0)
theorem mu_next (cA : ClassId) (n b i : Nat) : (mu_o cA n b i).setSlot i (.ref (b + 1 + i)) = mu_o cA n b (i + 1) := by
  unfold mu_o
  rw [arrV_store]
  congr 1
  funext j
  unfold updV
  by_cases e : j = i
  · subst e
    rw [if_pos rfl, if_pos (Nat.lt_succ_self j)]
    rfl
  · rw [if_neg e]
    show va_rf (if j < i then some (b + 1 + j) else none) = _
    by_cases h : j < i
    · rw [if_pos h, if_pos (by omega)]
    · rw [if_neg h, if_neg (by omega)]
def mu_T (T : State) (cA cC : ClassId) (n m : Nat) : Nat → State
  | 0 => T.pushCell (mu_o cA n T.heap.size 0)
  | i + 1 => ((mu_T T cA cC n m i).pushCell (mu_c cC m)).setCell T.heap.size (mu_o cA n T.heap.size (i + 1))
def mu_F (T : State) (cA cC : ClassId) (n m i : Nat) (U : State) : Prop :=
  U.heap.size = T.heap.size + 1 + i ∧ U.heap[T.heap.size]? = some (mu_o cA n T.heap.size i) ∧ U.vm = T.vm ∧ U.slotsUsed = T.slotsUsed + n + i * m ∧
  (∀ q, q < T.heap.size → U.heap[q]? = T.heap[q]?) ∧ ∀ j, j < i → U.heap[T.heap.size + 1 + j]? = some (mu_c cC m)
theorem mu_T_F (T : State) (cA cC : ClassId) (n m : Nat) : ∀ i, mu_F T cA cC n m i (mu_T T cA cC n m i)
  | 0 => by
    refine ⟨by simp [mu_T], by simp [mu_T], rfl, by simp [mu_T, mu_o, arrV_size], fun q hq => ?_, fun j hj => by omega⟩
    show (T.pushCell _).heap[q]? = _
    rw [State.heap_pushCell_of_lt (h := hq)]
  | i + 1 => by
    obtain ⟨f1, f2, f3, f4, f5, f6⟩ := mu_T_F T cA cC n m i
    have hp : ∀ q : Nat, q < T.heap.size + 1 + i → ((mu_T T cA cC n m i).pushCell (mu_c cC m)).heap[q]? = (mu_T T cA cC n m i).heap[q]? := fun q hq => State.heap_pushCell_of_lt _ _ (by rw [f1]; exact hq)
    have hb : ((mu_T T cA cC n m i).pushCell (mu_c cC m)).heap[T.heap.size]? = some (mu_o cA n T.heap.size i) := (hp _ (by omega)).trans f2
    refine ⟨?_, State.heap_setCell_self hb, by simp [mu_T, f3], ?_, fun q hq => ?_, fun j hj => ?_⟩
    · simp [mu_T, State.setCell, f1]
      omega
    · have : (i + 1) * m = i * m + m := Nat.succ_mul i m
      simp [mu_T, f4, mu_c, arrV_size]
      omega
    · show (((mu_T T cA cC n m i).pushCell (mu_c cC m)).setCell T.heap.size _).heap[q]? = _
      rw [State.heap_setCell_other (show T.heap.size ≠ q by omega), hp q (by omega)]
      exact f5 q hq
    · show (((mu_T T cA cC n m i).pushCell (mu_c cC m)).setCell T.heap.size _).heap[T.heap.size + 1 + j]? = _
      rw [State.heap_setCell_other (show T.heap.size ≠ T.heap.size + 1 + j by omega)]
      by_cases e : j < i
      · rw [hp _ (by omega)]
        exact f6 j e
      · have ej : j = i := by omega
        subst ej
        rw [← f1]
        exact State.heap_pushCell_size _ _
theorem mu_top (T : State) (g : JFrame) (cA cC : ClassId) (n m : Nat) : ∀ i, mu_T (T.setTop g) cA cC n m i = (mu_T T cA cC n m i).setTop g
  | 0 => rfl
  | i + 1 => by simp only [mu_T, mu_top T g cA cC n m i, State.heap_setTop, State.pushCell_setTop, State.setCell_setTop]
variable {p : Program} {l : Launch} {e : Env} {R : Room} {s : State} {m0 : MethodId} {args : Array Value} {below : List Frame} {meth : Method} {c : Code} {H : Heap} {locs : List Loc} {cells slots : Nat} {Q : State → Prop}
theorem mu_St {T : State} (X : Stand p l e R s m0 args below meth c T locs cells slots) (cA cC : ClassId) (n m : Nat) :
    ∀ i, ∃ L : List Loc, (∀ q ∈ L, q.base = T.heap.size) ∧ Stand p l e R s m0 args below meth c (mu_T T cA cC n m i) (locs ++ L) (cells + 1 + i) (slots + n + i * m)
  | 0 => by
    have h := X.pushed (mu_o cA n T.heap.size 0)
    rw [show (mu_o cA n T.heap.size 0).slots.size = n from arrV_size _ _ _] at h
    exact ⟨[], fun q hq => (by cases hq), by simpa [mu_T] using h⟩
  | i + 1 => by
    obtain ⟨L, hL, Xi⟩ := mu_St X cA cC n m i
    obtain ⟨f1, f2, -⟩ := mu_T_F T cA cC n m i
    have hb : ((mu_T T cA cC n m i).pushCell (mu_c cC m)).heap[T.heap.size]? = some (mu_o cA n T.heap.size i) := by
      rw [State.heap_pushCell_of_lt _ _ (show T.heap.size < (mu_T T cA cC n m i).heap.size by rw [f1]; omega)]
      exact f2
    have h := (Xi.pushed (mu_c cC m)).stored hb i (.ref (T.heap.size + 1 + i))
    rw [mu_next, show (mu_c cC m).slots.size = m from arrV_size _ _ _] at h
    have e3 : slots + n + (i + 1) * m = slots + n + i * m + m := by rw [Nat.succ_mul]; omega
    refine ⟨L ++ [⟨T.heap.size, i⟩], fun q hq => ?_, ?_⟩
    · rcases List.mem_append.mp hq with z | z
      · exact hL q z
      · rw [List.mem_singleton.mp z]
    · rw [e3, ← List.append_assoc]
      exact h
theorem mu_wp {E : CtlPost} {e : Env} {d : Bool} {acts : List Action} {s : State} {cA cC ci : ClassId} {k kC : Class} {n m : Int32} (hk : s.vm.classes[cA]? = some k) (hkind : k.kind = .array cC (.array .int))
    (hkc : s.vm.classes[cC]? = some kC) (hkindc : kC.kind = .array ci .int) (hn : ¬ n < 0) (hm : ¬ m < 0)
    (hl1 : ¬ n.toNatClampNeg > e.platform.arrayLengthLimit) (hh1 : ¬ n.toNatClampNeg * componentBytes (.array .int) > e.platform.maxHeapBytes)
    (hl2 : ¬ m.toNatClampNeg > e.platform.arrayLengthLimit) (hh2 : ¬ m.toNatClampNeg * componentBytes .int > e.platform.maxHeapBytes)
    (hc : s.heap.size + 1 + n.toNatClampNeg ≤ e.platform.maxCells) (hs : s.slotsUsed + n.toNatClampNeg + n.toNatClampNeg * m.toNatClampNeg ≤ e.platform.maxSlots)
    {Q : Addr → Pre} (hq : ∀ d' acts', Q s.heap.size d' acts' (mu_T s cA cC n.toNatClampNeg m.toNatClampNeg n.toNatClampNeg)) :
    wp (multianewarray.make cA [n, m]) Q E e d acts s := by
  have hge : ∀ i, i < n.toNatClampNeg → i * m.toNatClampNeg + m.toNatClampNeg ≤ n.toNatClampNeg * m.toNatClampNeg := fun i hi => by
    have := Nat.mul_le_mul_right m.toNatClampNeg (show i + 1 ≤ n.toNatClampNeg from hi)
    rw [Nat.succ_mul] at this
    exact this
  rw [multianewarray.make]
  simp only [wp_bind', W.ite, hn, if_false, wp_pure', W.theClass, hk, hkind, Option.some.injEq, exists_eq_left']
  refine W.newArray_of hk hkind hl1 hh1 (by omega) (by omega) rfl fun acts1 => ?_
  have e0 : s.pushCell { cls := cA, slots := Array.replicate n.toNatClampNeg .null } = mu_T s cA cC n.toNatClampNeg m.toNatClampNeg 0 := by
    show s.pushCell ({ cls := cA, slots := Array.replicate n.toNatClampNeg .null, vm := .none } : Cell) = s.pushCell _
    rw [arrV_new]
    rfl
  rw [e0]
  have hfind : ([m].find? (· < 0)) = none := by simp [hm]
  simp only [hfind]
  rw [ite_self, wp_bind', Std.Legacy.Range.forIn_eq_forIn_range', show ([:n.toNatClampNeg] : Std.Legacy.Range).size = n.toNatClampNeg by simp [Std.Legacy.Range.size]]
  show wp (forIn (List.range' 0 n.toNatClampNeg 1) PUnit.unit _) _ E e d acts1 _
  refine wp_forIn_inv (fun r U => r = List.range' (n.toNatClampNeg - r.length) r.length ∧ r.length ≤ n.toNatClampNeg ∧ U = mu_T s cA cC n.toNatClampNeg m.toNatClampNeg (n.toNatClampNeg - r.length)) _ _ ⟨by simp, by simp, by simp⟩ ?_ ?_
  · rintro x r U d1 acts2 Q2 ⟨hr, hle, rfl⟩ hnext
    rw [List.length_cons] at hr hle ⊢
    rw [List.range'_succ] at hr
    obtain ⟨hx, hr⟩ := List.cons.inj hr
    have e1 : n.toNatClampNeg - (r.length + 1) + 1 = n.toNatClampNeg - r.length := by omega
    rw [e1] at hr
    rw [← hx]
    have hxn : x < n.toNatClampNeg := by omega
    obtain ⟨f1, f2, f3, f4, -⟩ := mu_T_F s cA cC n.toNatClampNeg m.toNatClampNeg x
    have h9 := hge x hxn
    simp only [wp_bind']
    rw [multianewarray.make]
    simp only [wp_bind', W.ite, hm, if_false, wp_pure', W.theClass, f3, hkc, hkindc, Option.some.injEq, exists_eq_left']
    refine W.newArray_of (by rw [f3]; exact hkc) hkindc hl2 hh2 (by rw [f1]; omega) (by rw [f4]; omega) rfl fun acts3 => ?_
    have ec : ({ cls := cC, slots := Array.replicate m.toNatClampNeg (defaultValue .int) } : Cell) = mu_c cC m.toNatClampNeg := by
      show ({ cls := cC, slots := Array.replicate m.toNatClampNeg (.int 0), vm := .none } : Cell) = _
      rw [arrV_new]
      rfl
    rw [ec]
    simp only [wp_bind', W.writeLoc, wp_pure']
    refine ⟨mu_o cA n.toNatClampNeg s.heap.size x, by rw [State.heap_pushCell_of_lt _ _ (show s.heap.size < (mu_T s cA cC n.toNatClampNeg m.toNatClampNeg x).heap.size by rw [f1]; omega)]; exact f2, (fun z => by cases z), by rw [show (mu_o cA n.toNatClampNeg s.heap.size x).slots.size = n.toNatClampNeg from arrV_size _ _ _]; exact hxn, ?_, hnext _ _ _ ⟨hr, by omega, ?_⟩⟩
    · show State.fitsSlot _ cA .none x _ = true
      simp [State.fitsSlot, State.slotType?, f3, hk, hkind]
      rfl
    · rw [f1, mu_next, ← e1, ← hx]
      rfl
  · rintro U d1 acts2 ⟨-, -, rfl⟩
    simp only [wp_pure', List.length_nil, Nat.sub_zero]
    exact hq _ _
theorem mu_W {cc : ByteArray} (hexec : p.tables.exec = Jvm.exec) (hb : c.code = cc) {own : String} {index : Nat} (hown : s.vm.findClass own = some m0.cls) (hclink : (Cond.classLink own index "[[I").before args s = true)
    (hover : (Cond.arrayOver (.array .int)).before args s = true) (harr : (Cond.arrayClass .int).before args s = true)
    {g : JFrame} (hg : g.method = m0) (hdg : decode cc g.pc = .ok (.multianewarray index 2, 4)) {n m : Int32} {rest : List Value} (hstack : g.stack = .int m :: .int n :: rest)
    (hn : ¬ n < 0) (hm : ¬ m < 0) (hbn : n.toNatClampNeg ≤ 65536) (hbm : m.toNatClampNeg ≤ 65536) (hcells : cells + (1 + n.toNatClampNeg) ≤ R.cells) (hslots : slots + (n.toNatClampNeg + n.toNatClampNeg * m.toNatClampNeg) ≤ R.slots)
    (kk : ∀ (cA cC ci : ClassId) (kA kC : Class) (H1 : Heap) (L : List Loc), s.vm.findClass "[[I" = some cA → s.vm.findClass "[I" = some cC → s.vm.classes[cA]? = some kA → kA.kind = .array cC (.array .int) → s.vm.classes[cC]? = some kC → kC.kind = .array ci .int →
      H1.size = H.size + 1 + n.toNatClampNeg → H1[H.size]? = some (mu_o cA n.toNatClampNeg H.size n.toNatClampNeg) → (∀ q, q < H.size → H1[q]? = H[q]?) → (∀ j, j < n.toNatClampNeg → H1[H.size + 1 + j]? = some (mu_c cC m.toNatClampNeg)) → (∀ q ∈ L, q.base = H.size) →
      W p l e R s m0 args below meth c H1 (locs ++ L) (cells + 1 + n.toNatClampNeg) (slots + n.toNatClampNeg + n.toNatClampNeg * m.toNatClampNeg) Q { g with pc := g.pc + 4, stack := .ref H.size :: rest }) : W p l e R s m0 args below meth c H locs cells slots Q g := by
  intro T hT X
  subst hT; subst hb; subst hg
  have hpl : e.platform.magicAccessors = ({} : Platform).magicAccessors := by rw [X.admits.platform]
  obtain ⟨cC, cA, kA, hcC, -, hkA, hkindA, hcA⟩ := arrayOverA_spec hover
  obtain ⟨cC', kC, ci, hcC', hkC, hkindC⟩ := Cond.arrayClass_spec harr
  cases hcC'.symm.trans hcC
  obtain ⟨c0, hc0, hcl⟩ := Cond.classLink_spec hown hclink e.platform hpl
  cases hcA.symm.trans hc0
  obtain ⟨hg1, hW1, hready⟩ := State.classEntry (e := e) X.warmed hcl
  generalize T.vm.noted g.method.cls index (.cls cA) = vm1 at hg1 hW1 hready
  obtain ⟨kA1, hkA1, heA⟩ := hW1.alike.2.2 _ _ hkA
  obtain ⟨kC1, hkC1, heC⟩ := hW1.alike.2.2 _ _ hkC
  obtain ⟨hr1, hr2⟩ := X.roomAbove hcells hslots
  obtain ⟨L, hL, XF⟩ := mu_St (X.noted hW1) cA cC n.toNatClampNeg m.toNatClampNeg n.toNatClampNeg
  obtain ⟨f1, f2, -, -, f5, f6⟩ := mu_T_F (T.setVm vm1) cA cC n.toNatClampNeg m.toNatClampNeg n.toNatClampNeg
  obtain ⟨t, a1, b1⟩ := kk cA cC ci kA kC _ L hcA hcC hkA hkindA hkC hkindC f1 f2 f5 f6 hL _ rfl XF
  refine ⟨t, ?_, b1⟩
  have hl1 : ¬ n.toNatClampNeg > e.platform.arrayLengthLimit := by rw [Launch.admits_arrayLengthLimit X.admits]; omega
  have hh1 : ¬ n.toNatClampNeg * componentBytes (.array .int) > e.platform.maxHeapBytes := by
    rw [Launch.admits_maxHeapBytes X.admits]; show ¬ n.toNatClampNeg * 4 > 536870912; omega
  have hl2 : ¬ m.toNatClampNeg > e.platform.arrayLengthLimit := by rw [Launch.admits_arrayLengthLimit X.admits]; omega
  have hh2 : ¬ m.toNatClampNeg * componentBytes .int > e.platform.maxHeapBytes := by
    rw [Launch.admits_maxHeapBytes X.admits]; show ¬ m.toNatClampNeg * 4 > 536870912; omega
  jvm_step X.here [hexec, hdg]
  simp only [multianewarray.sem, wp_bind', W.resolveClassAt_links (State.method?_setTop g X.here.top) hg1]
  rw [W.popN, if_neg (by decide)]
  refine ⟨g, State.topJava?_setTop' (s := T.setVm vm1) g X.here.top, [.int n, .int m], rest, rfl, hstack, ?_⟩
  simp only [List.mapM_cons, List.mapM_nil, wp_bind', wp_pure']
  refine mu_wp (k := kA1) (kC := kC1) (cC := cC) (ci := ci) hkA1 (by rw [heA]; exact hkindA) hkC1 (by rw [heC]; exact hkindC) hn hm hl1 hh1 hl2 hh2 (by show T.heap.size + 1 + _ ≤ _; omega) (by show T.slotsUsed + _ + _ ≤ _; omega) (fun d' acts' => ?_)
  have eS : ((T.setTop g).setVm vm1).setTop { g with stack := rest } = (T.setVm vm1).setTop { g with stack := rest } := by
    show ((T.setVm vm1).setTop g).setTop _ = _
    rw [State.setTop_setTop]
  rw [eS, mu_top]
  simp only [wp_bind', W.mark, W.pushRef, State.topJava?_setTop' _ XF.here.top, Option.some.injEq, exists_eq_left', State.setTop_setTop, State.heap_setTop]
  intro acts
  simp [jvm, XF.here.top]
  exact a1
end MU
section MV
theorem mm_mu_in {h : mm_S} {q n m x : Nat} (hx : x ∈ (mm_mu h q n m).1) : x ∈ h.1 ∨ ∃ j, j ≤ n ∧ x = q + j := by
  rcases List.mem_append.mp hx with z | z
  · exact Or.inl z
  · obtain ⟨j, hj, rfl⟩ := List.mem_map.mp z
    exact Or.inr ⟨j, by have := List.mem_range.mp hj; omega, rfl⟩
theorem mm_mu_0 {h : mm_S} {q n m : Nat} : (mm_mu h q n m).2 q = .inl (8, n, .inr (.inr (.inr (.inr (fun j => if j < n then some (q + 1 + j) else none))))) := if_pos rfl
theorem mm_mu_1 {h : mm_S} {q n m j : Nat} (hj : j < n) : (mm_mu h q n m).2 (q + 1 + j) = .inl (0, m, .inl (fun _ => 0)) := by
  show (if q + 1 + j = q then _ else _) = _
  rw [if_neg (by omega), if_pos (by omega)]
theorem mm_mu_o {h : mm_S} {q n m x : Nat} (hf : ∀ j, j ≤ n → x ≠ q + j) : (mm_mu h q n m).2 x = h.2 x := by
  show (if x = q then _ else _) = _
  rw [if_neg (fun e : x = q => hf 0 (Nat.zero_le _) e), if_neg (fun z => hf (x - q) (by omega) (by omega))]
theorem mm_mk_mu {D : va_G} {h : mm_S} {q n m : Nat} (hm : mm_mk D h) (hf : mm_fr h q n) : mm_mk D (mm_mu h q n m) := by
  have hne : ∀ i : Nat, i < 9 → ∀ j, j ≤ n → D.1 (100 + i) ≠ q + j := fun i hi j hj e => (hf j hj).2 (e ▸ (hm.2 i hi).1)
  refine ⟨fun x hx => ?_, fun i hi => ⟨(mm_mu_o (hne i hi)).trans (hm.2 i hi).1, fun hx => ?_⟩⟩
  · by_cases hz : ∀ j, j ≤ n → x ≠ q + j
    · exact hm.1 x ((mm_mu_o hz).symm.trans hx)
    · have hz2 : ∃ j, j ≤ n ∧ x = q + j := Classical.byContradiction fun hc => hz fun j hj e => hc ⟨j, hj, e⟩
      obtain ⟨j, hj, rfl⟩ := hz2
      match j, hj with
      | 0, _ =>
        have := (mm_mu_0 (h := h) (q := q) (n := n) (m := m)).symm.trans hx
        cases this
      | j + 1, hj =>
        have e1 : q + (j + 1) = q + 1 + j := by omega
        rw [e1] at hx
        have := (mm_mu_1 (h := h) (q := q) (n := n) (m := m) (j := j) (by omega)).symm.trans hx
        cases this
  · rcases mm_mu_in hx with z | ⟨j, hj, e⟩
    · exact (hm.2 i hi).2 z
    · exact hne i hi j hj e
theorem mm_pl_P {D : va_G} {cl : List vw_C} {L : List Nat} {f : Nat → va_E} {H : Heap} (h : ∀ q ∈ L, va_at D cl (q, f q) H) : va_P D cl (va_pl L f) H := by
  intro k q hk
  obtain ⟨a, ha, rfl⟩ := List.mem_map.mp (List.mem_of_getElem? hk)
  exact h a ha
theorem mm_pl_P2 {D : va_G} {cl : List vw_C} {L : List Nat} {f : Nat → va_E} {H : Heap} (h : va_P D cl (va_pl L f) H) : ∀ q ∈ L, va_at D cl (q, f q) H := by
  intro q hq
  obtain ⟨k, hk⟩ := List.getElem?_of_mem hq
  exact h k (q, f q) (by unfold va_pl; rw [List.getElem?_map, hk]; rfl)
theorem mm_pl_D {A : Nat → Prop} {L : List Nat} {f : Nat → va_E} (hn : L.Nodup) (hA : ∀ q ∈ L, A q) : va_D A (va_pl L f) := by
  unfold va_pl
  refine ⟨fun i j p q hp hq e => ?_, fun k q hk => ?_⟩
  · rw [List.getElem?_map, Option.map_eq_some_iff] at hp hq
    obtain ⟨a, ha, rfl⟩ := hp
    obtain ⟨b, hb, rfl⟩ := hq
    have e2 : a = b := e
    subst e2
    exact (List.getElem?_inj (List.getElem?_eq_some_iff.mp ha).1 hn).mp (ha.trans hb.symm)
  · obtain ⟨a, ha, rfl⟩ := List.mem_map.mp (List.mem_of_getElem? hk)
    exact hA a ha
theorem mm_pl_D2 {A : Nat → Prop} {L : List Nat} {f : Nat → va_E} (h : va_D A (va_pl L f)) : L.Nodup ∧ ∀ q ∈ L, A q := by
  have hg : ∀ (i q : Nat), L[i]? = some q → (va_pl L f)[i]? = some (q, f q) := fun i q hi => by unfold va_pl; rw [List.getElem?_map, hi]; rfl
  refine ⟨List.pairwise_iff_getElem.mpr fun i j hi hj hij e => ?_, fun q hq => ?_⟩
  · have h1 := hg i L[i] (List.getElem?_eq_getElem hi)
    have h2 := hg j L[j] (List.getElem?_eq_getElem hj)
    have := h.1 i j _ _ h1 h2 e
    omega
  · obtain ⟨k, hk⟩ := List.getElem?_of_mem hq
    exact h.2 k _ (hg k q hk)
variable {p : Program} {l : Launch} {e : Env} {R : Room} {s : State} {m0 : MethodId} {args : Array Value} {below : List Frame} {meth : Method} {cd : Code} {H : Heap} {locs : List Loc}
variable {cc : ByteArray} {nL o y d c k : Nat} {ini : Bool} {D : va_G} {tys : List (ClassId × FieldType)} {b0 : Nat} {Amb : State → Heap → Prop} {X : mm_Cl} {Q : mm_Re → Prop}
theorem mm_mu_rep {h : mm_S} {H1 : Heap} {n m : Nat} {cA cC : ClassId} (hr : mm_rep D tys b0 h H) (h8 : (tys.getD 8 (0, .int)).1 = cA) (h0 : (tys.getD 0 (0, .int)).1 = cC) (hb : b0 ≤ H.size) (hf : mm_fr h H.size n)
    (e1 : H1[H.size]? = some (mu_o cA n H.size n)) (e2 : ∀ q, q < H.size → H1[q]? = H[q]?) (e3 : ∀ j, j < n → H1[H.size + 1 + j]? = some (mu_c cC m)) : mm_rep D tys b0 (mm_mu h H.size n m) H1 := by
  obtain ⟨hn, hA⟩ := mm_pl_D2 hr.2.1
  have hP := mm_pl_P2 hr.1
  have hlt : ∀ q ∈ h.1, q < H.size := fun q hq => (hP q hq).lt
  refine ⟨mm_pl_P fun q hq => ?_, mm_pl_D ?_ (fun q hq => ?_), mm_mk_mu hr.2.2 hf⟩
  · rcases mm_mu_in hq with z | ⟨j, hj, rfl⟩
    · have hz := hlt q z
      rw [mm_mu_o (fun j _ e => by omega)]
      exact (hP q z).kept (e2 q hz)
    · match j, hj with
      | 0, _ =>
        show va_at D mm_cl (H.size, mm_cv tys ((mm_mu h H.size n m).2 H.size)) H1
        rw [mm_mu_0]
        show H1[H.size]? = some (vp_cell (tys.getD 8 (0, .int)).1 _)
        rw [e1, h8]
        rfl
      | j + 1, hj =>
        have e9 : H.size + (j + 1) = H.size + 1 + j := by omega
        rw [e9, mm_mu_1 (by omega)]
        show H1[H.size + 1 + j]? = some (vp_cell (tys.getD 0 (0, .int)).1 _)
        rw [e3 j (by omega), h0]
        rfl
  · show (h.1 ++ _).Nodup
    rw [List.nodup_append]
    refine ⟨hn, ?_, fun a ha b hb2 => ?_⟩
    · refine List.pairwise_map.mpr (List.Pairwise.imp (fun z => ?_) List.nodup_range)
      omega
    · obtain ⟨j, -, rfl⟩ := List.mem_map.mp hb2
      have := hlt a ha
      omega
  · rcases mm_mu_in hq with z | ⟨j, -, rfl⟩
    · exact hA q z
    · exact Nat.le_trans hb (Nat.le_add_right _ _)
theorem mm_cM (Z : mm_Z p l R s m0 args meth cd cc nL o ini y d c k D tys b0 Amb X) {i pc c2 k2 : Nat} {n m : Int32} {rest : List Value} {ls : mm_L} {h : mm_S} (hd : decode cc pc = .ok (.multianewarray i 2, 4)) (hlk : mm_look (mm_lnk o) i = some (18, 8, 18)) (hover : (Cond.arrayOver (.array .int)).before #[] s = true)
    (hn : ¬ n < 0) (hm : ¬ m < 0) (hbn : n.toNatClampNeg ≤ 65536) (hbm : m.toNatClampNeg ≤ 65536) (h1 : 1 + n.toNatClampNeg ≤ c2) (h2 : n.toNatClampNeg + n.toNatClampNeg * m.toNatClampNeg ≤ k2)
    (g : ∀ q : Nat, mm_fr h q n.toNatClampNeg → mm_KK p l e R s m0 args below meth cd c k Q nL D tys b0 (pc + 4, .ref q :: rest, ls, mm_mu h q n.toNatClampNeg m.toNatClampNeg) (c2 - (1 + n.toNatClampNeg)) (k2 - (n.toNatClampNeg + n.toNatClampNeg * m.toNatClampNeg))) :
    mm_KK p l e R s m0 args below meth cd c k Q nL D tys b0 (pc, .int m :: .int n :: rest, ls, h) c2 k2 := by
  obtain ⟨CX, hRe, hret, hlocks, hout, hb0, hamb, hA, IH⟩ := id Z
  obtain ⟨hx, hb, hml, hts, hnw, hown, hini, hK, hty⟩ := id CX
  have hRf : R.cells = c ∧ R.slots = k := by
    rw [hRe]
    exact ⟨rfl, rfl⟩
  obtain ⟨hR3, hR4⟩ := hRf
  intro hc hk2 la H locs hl hr hS
  have w := mm_rowB hts hlk
  have hb1 : b0 ≤ H.size := Nat.le_trans hb0 hS.1
  have hfr : mm_fr h H.size n.toNatClampNeg := fun j _ => by
    refine ⟨fun z => ?_, fun z => ?_⟩
    · have := (mm_pl_P2 hr.1 _ z).lt
      have h9 : H.size + j < H.size := this
      omega
    · obtain ⟨i9, hi9, e9⟩ := hr.2.2.1 _ z
      have := (hA.2.2.2.1 s s.heap hamb i9 hi9).1
      have h9 : H.size + j < b0 := Nat.lt_of_le_of_lt (Nat.le_of_eq e9) this
      omega
  refine mu_W (m := m) (n := n) (rest := rest) hx hb hown (w _ List.mem_cons_self) hover (hts _ (List.mem_append_right _ (List.mem_append_right _ (List.mem_append_left _ (List.mem_cons_of_mem _ List.mem_cons_self))))) rfl hd rfl hn hm hbn hbm (by omega) (by omega) fun cA cC ci kA kC H1 L f1 f2 f3 f4 f5 f6 z1 e1 e2 e3 hL => ?_
  have t8 := (hK.2 8 _ (mm_ty_at hty (t := 8) (by decide))).2
  have t0 := (hK.2 0 _ (mm_ty_at hty (t := 0) (by decide))).2
  have e8 : (tys.getD 8 (0, .int)).1 = cA := Option.some.inj (Eq.trans (Eq.symm t8) f1)
  have e0 : (tys.getD 0 (0, .int)).1 = cC := Option.some.inj (Eq.trans (Eq.symm t0) f2)
  have hrep := mm_mu_rep (m := m.toNatClampNeg) hr e8 e0 hb1 hfr e1 e2 e3
  have hS1 : va_S (mm_A b0) s.heap H1 (locs ++ L) := ⟨Nat.le_trans hS.1 (by omega), fun x hx1 hx2 => (e2 x (Nat.lt_of_lt_of_le hx1 hS.1)).trans (hS.2.1 x hx1 hx2), fun x hx => (List.mem_append.mp hx).elim (hS.2.2 x) (fun z => by rw [hL x z]; exact hb1)⟩
  have g2 := g H.size hfr (by omega) (by omega) la H1 (locs ++ L) hl hrep hS1
  exact W.cs (by omega) (by omega) g2
end MV

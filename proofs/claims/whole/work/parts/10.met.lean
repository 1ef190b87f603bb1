def mm_wsY (y : Nat) : List Cond := Cond.code (mm_m y).2.1 (mm_m y).2.2.1 (mm_m y).2.2.2.1 (mm_m y).2.2.2.2 :: mm_W
def mm_rm (d c k : Nat) : Room := { frames := d + 9, cells := c, slots := k, locals := 64 * d + 256 }
theorem mm_cw_eq : mm_cw = mm_pr.map (fun q => Cond.code q.2.1 q.2.2.1 q.2.2.2.1 q.2.2.2.2) := by
  simp only [mm_cw, mm_pr, List.map_append]
  rfl
theorem mm_pr_len : mm_pr.length = 266 := by decide +kernel
theorem mm_code_in {y : Nat} (h : y < 266) : Cond.code (mm_m y).2.1 (mm_m y).2.2.1 (mm_m y).2.2.2.1 (mm_m y).2.2.2.2 ∈ mm_W := by
  refine List.mem_append_left _ ?_
  rw [mm_cw_eq]
  refine List.mem_map.mpr ⟨mm_m y, ?_, rfl⟩
  have h2 : y < mm_pr.length := by rw [mm_pr_len]; exact h
  unfold mm_m
  rw [List.getD_eq_getElem?_getD, List.getElem?_eq_getElem h2]
  exact List.getElem_mem h2
/-- what holds of every method -/
def mm_mv (q : Nat × MethodName × ByteArray × Nat × Option FieldType) : Bool := plainName q.2.1.cls && (decide (mm_R q.1 = q.2.1.cls) && (decide (q.2.1.cls ≠ "java/lang/invoke/MethodHandle") && (decide (q.2.1.cls ≠ "java/lang/invoke/VarHandle") && decide (q.2.2.2.1 ≤ 20))))
theorem mm_mv_all : mm_pr.all mm_mv = true := by decide +kernel
theorem mm_mv_at {y : Nat} (h : y < 266) : mm_mv (mm_m y) = true := by
  have h2 : y < mm_pr.length := by rw [mm_pr_len]; exact h
  refine List.all_eq_true.mp mm_mv_all (mm_m y) ?_
  unfold mm_m
  rw [List.getD_eq_getElem?_getD, List.getElem?_eq_getElem h2]
  exact List.getElem_mem h2
/-- what holds of every row of a pool that names a method -/
def mm_rv (r : Nat × Nat × Nat × Nat) : Bool := match r with
  | (_, t, a, b) => if (2 ≤ t ∧ t ≤ 7) ∨ t = 13 ∨ t = 14 then decide (a < 266) && (decide ((parseMethodDescriptor (mm_m a).2.1.desc).map (fun d => d.parameters.length) = some (b % 16)) && ((decide (t ≠ 6) && decide (t ≠ 7)) || (decide ((mm_m a).2.1.name = "<init>") && decide ((mm_m a).2.2.2.2 = none))) && (decide (t ≠ 14) || decide ((mm_m a).2.1.name ≠ "<init>"))) else true
theorem mm_rv_all : (List.range 14).all (fun o => (mm_lnk o).all mm_rv) = true := by decide +kernel
theorem mm_rv_at {o i t a b : Nat} (h : mm_look (mm_lnk o) i = some (t, a, b)) : mm_rv (i, t, a, b) = true :=
  List.all_eq_true.mp (List.all_eq_true.mp mm_rv_all o (List.mem_range.mpr (mm_own_lt h))) _ (mm_look_in h)
theorem mm_nest_form : ∀ w ∈ mm_N, (∃ a i b n d h, w = .fieldLinkNest a i b n d h) ∨ ∃ a i x h, w = .methodLinkNest a i x h := by
  intro w hw
  obtain ⟨o, -, h⟩ := List.mem_flatMap.mp hw
  obtain ⟨⟨i, t, a, b⟩, -, h⟩ := List.mem_flatMap.mp h
  unfold mm_rn at h
  dsimp only at h
  split at h
  · exact Or.inl ⟨_, _, _, _, _, _, List.mem_singleton.mp h⟩
  · exact Or.inr ⟨_, _, _, _, List.mem_singleton.mp h⟩
  · exact Or.inr ⟨_, _, _, _, List.mem_singleton.mp h⟩
  · exact Or.inr ⟨_, _, _, _, List.mem_singleton.mp h⟩
  · cases h
theorem mm_nest_warm {s U : State} (hW : s.WarmedH U.vm) (h : ∀ w ∈ mm_N, va_Nw w s) : ∀ w ∈ mm_N, va_Nw w U := by
  intro w hw
  rcases mm_nest_form w hw with ⟨a, i, b, n, d, hh, rfl⟩ | ⟨a, i, x, hh, rfl⟩
  · exact va_Nw.warmF hW (h _ hw)
  · exact va_Nw.warmM hW (h _ hw)
theorem mm_nest_same {s U : State} (hv : s.vm = U.vm) (h : ∀ w ∈ mm_N, va_Nw w s) : ∀ w ∈ mm_N, va_Nw w U := by
  intro w hw
  rcases mm_nest_form w hw with ⟨a, i, b, n, d, hh, rfl⟩ | ⟨a, i, x, hh, rfl⟩
  · exact va_Nw.same rfl hv (h _ hw)
  · exact va_Nw.same rfl hv (h _ hw)
theorem mm_goodW {w : Cond} (h : w ∈ mm_W) : (w.onTables && w.keeps) = true ∨ ∃ ty, w = .arrayClass ty := (mm_good _ h).2
theorem mm_wsY_good {y : Nat} (h : y < 266) : GoodIn mm_W (mm_wsY y) := by
  intro w hw
  rcases List.mem_cons.mp hw with e | h2
  · rw [e]
    exact ⟨mm_code_in h, (mm_good _ (mm_code_in h)).2⟩
  · exact ⟨h2, (mm_good _ h2).2⟩
/-- what the start of a method gives, beside its arguments -/
def mm_B (D : va_G) (tys : List (ClassId × FieldType)) (b0 : Nat) (Amb : State → Heap → Prop) (h : mm_S) (U : State) : Prop :=
  mm_rep D tys b0 h U.heap ∧ va_K D mm_cl tys U ∧ (∀ w ∈ mm_N, va_Nw w U) ∧ b0 ≤ U.heap.size ∧ Amb U U.heap
def mm_Qc (D : va_G) (tys : List (ClassId × FieldType)) (b0 : Nat) (Q : mm_Re → Prop) : Array Value → State → Outcome → State → Prop := fun _ st o t =>
  (∃ (v : Option Value) (h2 : mm_S), o = .returned v ∧ Q (.inl v, h2) ∧ mm_rep D tys b0 h2 t.heap) ∧ va_F (mm_A b0) st t
def mm_XC (D : va_G) (tys : List (ClassId × FieldType)) (b0 : Nat) (Q : mm_Re → Prop) : String → State → State → Prop := fun E st t =>
  (∃ h2 : mm_S, Q (.inr E, h2) ∧ mm_rep D tys b0 h2 t.heap) ∧ va_F (mm_A b0) st t
/-- the contract of a method that the little machine runs -/
def mm_Met (l : Launch) (D : va_G) (tys : List (ClassId × FieldType)) (b0 : Nat) (Amb : State → Heap → Prop) (d y c k : Nat) (args : List Value) (h : mm_S) (Q : mm_Re → Prop) : Prop :=
  vx_Met l (mm_m y).2.1 (mm_wsY y) (mm_rm d c k) (va_Pc args (mm_B D tys b0 Amb h)) (mm_Qc D tys b0 Q) (mm_XC D tys b0 Q) c k (mm_A b0)
/-- the laws of what is given beside: it lasts, and an exception can be thrown -/
def mm_AL (l : Launch) (D : va_G) (tys : List (ClassId × FieldType)) (b0 : Nat) (Amb : State → Heap → Prop) : Prop :=
  (∀ (u U : State) (H H1 : Heap), u.WarmedH U.vm → b0 ≤ H.size → (∀ q : Nat, q < b0 → H1[q]? = H[q]?) → Amb u H → Amb U H1) ∧
  (∀ (u U : State) (H : Heap), u.vm = U.vm → Amb u H → Amb U H) ∧
  (∀ (u : State) (H : Heap), Amb u H → va_AO RX0 u ∧ va_AO RX2 u ∧ va_AO RX3 u ∧ (Cond.arrayOver (.array .int)).before #[] u = true) ∧
  (∀ (u : State) (H : Heap), Amb u H → ∀ i : Nat, i < 9 → D.1 (100 + i) < b0 ∧ ∃ cell : Cell, H[D.1 (100 + i)]? = some cell ∧ cell.vm.isStatics = false ∧ u.vm.findClass RJ0 = some cell.cls) ∧
  (∀ (p : Program) (e : Env) (R : Room) (s : State) (m : MethodId) (args : Array Value) (below : List Frame) (meth : Method) (c : Code) (H : Heap) (locs : List Loc) (cells slots mc ms : Nat) (cc : ByteArray) (nL o : Nat) (ini : Bool) (Qc : Array Value → State → Outcome → State → Prop) (XC : String → State → State → Prop) (i a b pc : Nat) (la : Array Slot) (rest : List Value),
    mm_Cx p s m args meth c cc nL o ini D tys → Amb s s.heap → b0 ≤ s.heap.size → (b = 16 ∨ b = 17) → mm_tk o cc pc (.new i) a b = true → decode cc pc = .ok (.new i, 3) → va_S (mm_A b0) s.heap H locs → la.size = nL → (∀ x ∈ c.exceptionTable.toList, False) → mm_wd rest ≤ 8 → 9 ≤ R.frames → 256 ≤ R.locals → cells + 1 ≤ R.cells → slots + 6 ≤ R.slots → cells + 1 ≤ mc → slots + 6 ≤ ms → meth.locks = false →
    (∀ t : State, s.vm.Alike t.vm → H.size ≤ t.heap.size → (∀ q : Nat, q < H.size → t.heap[q]? = H[q]?) → XC (mm_exc.getD (mm_th a).2.2.2.2.1 "") s t) →
    W p l e R s m args below meth c H locs cells slots (vx_MQ below Qc XC args s mc ms (mm_A b0)) (F0 m pc la rest))
section MMC
variable {p : Program} {l : Launch} {e : Env} {R : Room} {s : State} {m : MethodId} {args : Array Value} {below : List Frame} {meth : Method} {c : Code} {H : Heap} {locs : List Loc} {cells slots : Nat}
variable {cc : ByteArray} {nL o : Nat} {ini : Bool} {D : va_G} {tys : List (ClassId × FieldType)} {b0 : Nat} {Amb : State → Heap → Prop}
/-- behind a call: the little machine goes on, or the throw leaves this method too -/
theorem mm_called {mc ms tc tk pc : Nat} {a : Array Value} {la : Array Slot} {ls : mm_L} {st0 rest : List Value} {Q Q2 : mm_Re → Prop}
    (hr : vx_Run p l e R s m args below meth c H locs cells slots mc ms (F0 m pc la st0) rest (mm_Qc D tys b0 Q2 a) (mm_XC D tys b0 Q2) (mm_A b0))
    (hl : lv_has la nL ls) (hS : va_S (mm_A b0) s.heap H locs) (hout : ∀ x ∈ c.exceptionTable.toList, False) (hlocks : meth.locks = false) (hc : cells + mc ≤ tc) (hk : slots + ms ≤ tk)
    (kk : ∀ (v : Option Value) (h2 : mm_S), Q2 (.inl v, h2) → mm_K p l e R s m args below meth c (cells + mc) (slots + ms) (vx_MQ below (mm_Qc D tys b0 Q) (mm_XC D tys b0 Q) args s tc tk (mm_A b0)) nL D tys b0 s.heap (pc + 3, v.toList ++ rest, ls, h2))
    (kx : ∀ (E : String) (h2 : mm_S), Q2 (.inr E, h2) → Q (.inr E, h2)) :
    W p l e R s m args below meth c H locs cells slots (vx_MQ below (mm_Qc D tys b0 Q) (mm_XC D tys b0 Q) args s tc tk (mm_A b0)) (F0 m pc la st0) := by
  intro T hT X
  rcases hr T hT X with ⟨v, st₀, t, T', L, h0, X', hL, e1, e2, ⟨⟨v', h2, hv, hq, hrep⟩, hF⟩, st⟩ | ⟨q, st₀, t, T', L, E, ce, h0, X', hL, e1, e2, ⟨⟨h2, hq, hrep⟩, hF⟩, hce, hcv, hcl, st⟩
  · cases hv
    obtain ⟨-, -, k3⟩ := vx_keep h0 e1 hS (fun _ _ h => h) (fun _ h => h) hL hF
    obtain ⟨t2, a1, b1⟩ := kk v h2 hq la T'.heap (locs ++ L) hl (by rw [e1]; exact hrep) k3 T' rfl X'
    exact ⟨t2, st t2 a1, b1⟩
  · obtain ⟨-, -, k3⟩ := vx_keep h0 e1 hS (fun _ _ h => h) (fun _ h => h) hL hF
    obtain ⟨t2, a1, b1⟩ := vx_out (p := p) (l := l) (e := e) (R := R) (s := s) (m := m) (args := args) (below := below) (meth := meth) (c := c) (H := T'.heap) (locs := locs ++ L) (cells := cells + mc) (slots := slots + ms) (Qc := mm_Qc D tys b0 Q) (XC := mm_XC D tys b0 Q) (free := mm_A b0) (mc := tc) (ms := tk) (pc := pc) (ls := la) (rest := rest) (E := E) (ce := ce) (q := q)
      (fun x hx => (hout x hx).elim) hlocks (by rw [e1]; exact hce) hcv hcl (fun t3 h3 h4 => ⟨⟨h2, kx E h2 hq, by rw [h3, e1]; exact hrep⟩, k3.F h3⟩) k3.2.2 hc hk T' rfl X'
    exact ⟨t2, st.trans a1, b1⟩
end MMC

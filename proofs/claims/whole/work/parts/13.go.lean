theorem mm_bind {α β : Type} {o : Option α} {f : α → Option β} {r : β} (h : o.bind f = some r) : ∃ x, o = some x ∧ f x = some r := by
  cases o with
  | none => cases h
  | some x => exact ⟨x, rfl, h⟩
theorem mm_ite {α : Type} {c : Prop} [Decidable c] {a b : Option α} {r : α} (h : (if c then a else b) = some r) : (c ∧ a = some r) ∨ (¬ c ∧ b = some r) := by
  by_cases hc : c
  · rw [if_pos hc] at h
    exact Or.inl ⟨hc, h⟩
  · rw [if_neg hc] at h
    exact Or.inr ⟨hc, h⟩
abbrev ki (n : Int) : Int32 := Int32.ofInt n
abbrev kb (n : Int) : Int32 := (Int8.ofInt n).toInt32
abbrev ks (n : Int) : Int32 := (Int16.ofInt n).toInt32
abbrev kl (n : Nat) : Int64 := Int64.ofNat n
/-! reading and writing the world, as functions -/
def fx_obj (h : mm_S) (q ci : Nat) : Option (List Value) := if q ∈ h.1 then match h.2 q with
    | .inr (c, fs) => if c = ci then some fs else none
    | _ => none
  else none
def fx_gI (h : mm_S) (q ci k : Nat) : Option Int32 := (fx_obj h q ci).bind fun fs => match fs[k]? with
  | some (.int x) => some x
  | _ => none
def fx_gL (h : mm_S) (q ci k : Nat) : Option Int64 := (fx_obj h q ci).bind fun fs => match fs[k]? with
  | some (.long x) => some x
  | _ => none
def fx_gR (h : mm_S) (q ci k : Nat) : Option Nat := (fx_obj h q ci).bind fun fs => match fs[k]? with
  | some (.ref x) => some x
  | _ => none
def fx_pV (h : mm_S) (q ci k : Nat) (v : Value) : Option mm_S := (fx_obj h q ci).bind fun fs => if k < fs.length ∧ narrow (mm_fty ci k) v = v ∧ fits (mm_fty ci k) v = true then some (mm_put h q (.inr (ci, fs.set k v))) else none
def fx_is (h : mm_S) (q ci : Nat) : Option Unit := (fx_obj h q ci).bind fun _ => some ()
def fx_arI (h : mm_S) (q : Nat) (ts : List Nat) : Option (Nat × Nat × (Nat → Int32)) := if q ∈ h.1 then match h.2 q with
    | .inl (t, n, .inl g) => if t ∈ ts then some (t, n, g) else none
    | _ => none
  else none
def fx_in (j : Int32) (n : Nat) : Bool := !(decide (j < 0) || decide (n ≤ j.toNatClampNeg))
theorem fx_in_of {j : Int32} {n : Nat} (h : fx_in j n = true) : vp_in j n := by
  unfold vp_in
  simp only [fx_in, Bool.not_eq_true', Bool.or_eq_false_iff, decide_eq_false_iff_not] at h
  exact fun q => q.elim h.1 h.2
def fx_aI (h : mm_S) (q : Nat) (j : Int32) : Option Int32 := (fx_arI h q [0]).bind fun z => if fx_in j z.2.1 = true then some (z.2.2 j.toNatClampNeg) else none
def fx_aB (h : mm_S) (q : Nat) (j : Int32) : Option Int32 := (fx_arI h q [1, 4]).bind fun z => if fx_in j z.2.1 = true then some (z.2.2 j.toNatClampNeg) else none
def fx_sI (h : mm_S) (q : Nat) (j x : Int32) : Option mm_S := (fx_arI h q [0]).bind fun z => if fx_in j z.2.1 = true then some (mm_put h q (.inl (0, z.2.1, .inl (upd z.2.2 j.toNatClampNeg x)))) else none
def fx_sB (h : mm_S) (q : Nat) (j x : Int32) : Option mm_S := (fx_arI h q [1, 4]).bind fun z => if fx_in j z.2.1 = true then (if z.1 = 1 then some (mm_put h q (.inl (1, z.2.1, .inl (upd z.2.2 j.toNatClampNeg (vp_nar .boolean x))))) else some (mm_put h q (.inl (4, z.2.1, .inl (upd z.2.2 j.toNatClampNeg (vp_nar .byte x)))))) else none
def fx_arR (h : mm_S) (q : Nat) : Option (Nat × Nat × (Nat → Option Nat)) := if q ∈ h.1 then match h.2 q with
    | .inl (t, n, .inr (.inr (.inr (.inr g)))) => if 5 ≤ t ∧ t < 9 then some (t, n, g) else none
    | _ => none
  else none
def fx_aR (h : mm_S) (q : Nat) (j : Int32) : Option Nat := (fx_arR h q).bind fun z => if fx_in j z.2.1 = true then z.2.2 j.toNatClampNeg else none
def fx_sR (h : mm_S) (q : Nat) (j : Int32) (v : Nat) : Option mm_S := (fx_arR h q).bind fun z => if fx_in j z.2.1 = true ∧ v ∈ h.1 then match h.2 v with
    | .inr (c, _) => if mm_tyl[z.1]? = some (.object (mm_C c).1) ∧ c < 8 then some (mm_put h q (.inl (z.1, z.2.1, .inr (.inr (.inr (.inr (va_up z.2.2 j.toNatClampNeg (some v)))))))) else none
    | _ => none
  else none
def fx_len (h : mm_S) (q : Nat) : Option Int32 := if q ∈ h.1 then match h.2 q with
    | .inl (t, x) => if t < 9 then some (Int32.ofNat x.1) else none
    | _ => none
  else none
def fx_cp (h : mm_S) (q0 : Nat) (sp : Int32) (q1 : Nat) (dp n : Int32) : Option mm_S := (fx_arI h q0 [0, 4]).bind fun z => (fx_arI h q1 [0, 4]).bind fun w => if z.1 = w.1 ∧ (¬ sp < 0 ∧ ¬ dp < 0 ∧ ¬ n < 0) ∧ sp.toNatClampNeg + n.toNatClampNeg ≤ z.2.1 ∧ dp.toNatClampNeg + n.toNatClampNeg ≤ w.2.1 ∧ (∀ i, i < n.toNatClampNeg → fits (mm_tyl.getD z.1 .int) (.int (z.2.2 (sp.toNatClampNeg + i))) = true) then some (mm_put h q1 (.inl (w.1, w.2.1, .inl (va_cpy z.2.2 w.2.2 sp.toNatClampNeg dp.toNatClampNeg n.toNatClampNeg)))) else none
def fx_nar (ty : FieldType) (x : Int32) : Option Int32 := if narrow ty (.int x) = .int x then some x else none
def fx_div (x y : Int32) : Option Int32 := if y = 0 then none else some (x / y)
def fx_rem (x y : Int32) : Option Int32 := if y = 0 then none else some (x - x / y * y)
theorem fx_obj_s {h : mm_S} {q ci : Nat} {fs : List Value} (e : fx_obj h q ci = some fs) : q ∈ h.1 ∧ h.2 q = .inr (ci, fs) := by
  unfold fx_obj at e
  split at e
  · next hq =>
    split at e
    · next hc =>
      split at e
      · next e2 =>
        cases e
        rw [← e2]
        exact ⟨hq, hc⟩
      · cases e
    · cases e
  · cases e
theorem fx_arI_s {h : mm_S} {q : Nat} {ts : List Nat} {z : Nat × Nat × (Nat → Int32)} (e : fx_arI h q ts = some z) : q ∈ h.1 ∧ h.2 q = .inl (z.1, z.2.1, .inl z.2.2) ∧ z.1 ∈ ts := by
  unfold fx_arI at e
  split at e
  · next hq =>
    split at e
    · next hc =>
      split at e
      · next e2 =>
        cases e
        exact ⟨hq, hc, e2⟩
      · cases e
    · cases e
  · cases e
theorem fx_arR_s {h : mm_S} {q : Nat} {z : Nat × Nat × (Nat → Option Nat)} (e : fx_arR h q = some z) : q ∈ h.1 ∧ h.2 q = .inl (z.1, z.2.1, .inr (.inr (.inr (.inr z.2.2)))) ∧ 5 ≤ z.1 ∧ z.1 < 9 := by
  unfold fx_arR at e
  split at e
  · next hq =>
    split at e
    · next hc =>
      split at e
      · next e2 =>
        cases e
        exact ⟨hq, hc, e2⟩
      · cases e
    · cases e
  · cases e
/-- some steps that ask nothing -/
def mm_adv (K : List mm_E) : Nat → mm_F → Option mm_F
  | 0, F => some F
  | n + 1, F => match mm_find K F.1 with
    | some (ins, a, b) => match mm_st ins a b F.1 F.2.1 F.2.2.1 F.2.2.2 with
      | some (none, F2) => mm_adv K n F2
      | _ => none
    | none => none
section GO
variable {X : mm_Cl} {d y c k pc a b : Nat} {Q : mm_Re → Prop} {K : List mm_E} {ls : mm_L} {h : mm_S} {st rest : List Value} {q i : Nat}
theorem mm_Run_in {args : List Value} (hy : y < 266) (hn : y ∉ mm_ext) (hl : (lg_sl args).length ≤ (mm_m y).2.2.2.1) (g : mm_Ex (mm_Run X d) y Q (0, [], lv_args 0 args, h) c k) : mm_Run X (d + 1) y c k args h Q := ⟨hy, hl, by rw [if_neg hn]; exact g⟩
/-- an instruction that neither calls nor ends nor makes -/
theorem go_st (hX : mm_mono X) {ins : Instr} {P : Option Prop} {F2 : mm_F} (cd : mm_cd y = K) (hf : mm_find K pc = some (ins, a, b)) (hs : mm_st ins a b pc st ls h = some (P, F2)) (hp : ∀ x, P = some x → x) (hd : ∀ C Q K2 c k, mm_do C y Q K2 ins a b pc st ls h c k = (match mm_st ins a b pc st ls h with
    | some (none, F) => K2 F c k
    | some (some P, F) => P ∧ K2 F c k
    | none => False)) (g : mm_Ex (mm_Run X d) y Q F2 c k) : mm_Ex (mm_Run X d) y Q (pc, st, ls, h) c k := by
  refine mm_Ex_go (mm_Run_mono hX d) ?_
  unfold mm_row1
  dsimp only
  rw [cd, hf]
  dsimp only
  rw [hd, hs]
  cases P with
  | none => exact g
  | some P => exact ⟨hp P rfl, g⟩
theorem mm_do_st {C : mm_Cl} {Q : mm_Re → Prop} {K2 : mm_F → Nat → Nat → Prop} {ins : Instr} {P : Option Prop} {F2 : mm_F} (hs : mm_st ins a b pc st ls h = some (P, F2)) : mm_do C y Q K2 ins a b pc st ls h c k = (match mm_st ins a b pc st ls h with
    | some (none, F) => K2 F c k
    | some (some P, F) => P ∧ K2 F c k
    | none => False) := by
  cases ins <;> first | rfl | (simp [mm_st] at hs)
theorem go_s (hX : mm_mono X) {ins : Instr} {P : Option Prop} {F2 : mm_F} (cd : mm_cd y = K) (hf : mm_find K pc = some (ins, a, b)) (hs : mm_st ins a b pc st ls h = some (P, F2)) (hp : ∀ x, P = some x → x) (g : mm_Ex (mm_Run X d) y Q F2 c k) : mm_Ex (mm_Run X d) y Q (pc, st, ls, h) c k :=
  go_st hX cd hf hs hp (fun _ _ _ _ _ => mm_do_st hs) g
theorem go_n (hX : mm_mono X) {ins : Instr} {F2 : mm_F} (cd : mm_cd y = K) (hf : mm_find K pc = some (ins, a, b)) (hs : mm_st ins a b pc st ls h = some (none, F2)) (g : mm_Ex (mm_Run X d) y Q F2 c k) : mm_Ex (mm_Run X d) y Q (pc, st, ls, h) c k :=
  go_s hX cd hf hs (fun _ z => by cases z) g
theorem go_p (hX : mm_mono X) {ins : Instr} {P : Prop} {F2 : mm_F} (cd : mm_cd y = K) (hf : mm_find K pc = some (ins, a, b)) (hs : mm_st ins a b pc st ls h = some (some P, F2)) (hp : P) (g : mm_Ex (mm_Run X d) y Q F2 c k) : mm_Ex (mm_Run X d) y Q (pc, st, ls, h) c k :=
  go_s hX cd hf hs (fun _ z => by cases z; exact hp) g
theorem go_adv (hX : mm_mono X) (cd : mm_cd y = K) : ∀ (n : Nat) {F F2 : mm_F}, mm_adv K n F = some F2 → mm_Ex (mm_Run X d) y Q F2 c k → mm_Ex (mm_Run X d) y Q F c k
  | 0, F, F2, h, g => by
    cases h
    exact g
  | n + 1, (pc, st, ls, h), F2, e, g => by
    unfold mm_adv at e
    dsimp only at e
    split at e
    · next ins a b hf =>
      split at e
      · next F3 hs => exact go_n hX cd hf hs (go_adv hX cd n e g)
      · cases e
    · cases e
theorem go_gI (hX : mm_mono X) {ix ci f : Nat} {v : Int32} (cd : mm_cd y = K) (hf : mm_find K pc = some (.getfield ix, ci, f)) (e : fx_gI h q ci f = some v) (g : mm_Ex (mm_Run X d) y Q (pc + 3, .int v :: rest, ls, h) c k) : mm_Ex (mm_Run X d) y Q (pc, .ref q :: rest, ls, h) c k := by
  obtain ⟨fs, e1, e2⟩ := mm_bind e
  obtain ⟨hq, hc⟩ := fx_obj_s e1
  split at e2
  · next x hx =>
    cases e2
    refine go_p hX cd hf (P := q ∈ h.1) ?_ hq g
    simp only [mm_st, mm_a1, mm_obj, hc, if_true, hx]
  · cases e2
theorem go_gL (hX : mm_mono X) {ix ci f : Nat} {v : Int64} (cd : mm_cd y = K) (hf : mm_find K pc = some (.getfield ix, ci, f)) (e : fx_gL h q ci f = some v) (g : mm_Ex (mm_Run X d) y Q (pc + 3, .long v :: rest, ls, h) c k) : mm_Ex (mm_Run X d) y Q (pc, .ref q :: rest, ls, h) c k := by
  obtain ⟨fs, e1, e2⟩ := mm_bind e
  obtain ⟨hq, hc⟩ := fx_obj_s e1
  split at e2
  · next x hx =>
    cases e2
    refine go_p hX cd hf (P := q ∈ h.1) ?_ hq g
    simp only [mm_st, mm_a1, mm_obj, hc, if_true, hx]
  · cases e2
theorem go_gR (hX : mm_mono X) {ix ci f v : Nat} (cd : mm_cd y = K) (hf : mm_find K pc = some (.getfield ix, ci, f)) (e : fx_gR h q ci f = some v) (g : mm_Ex (mm_Run X d) y Q (pc + 3, .ref v :: rest, ls, h) c k) : mm_Ex (mm_Run X d) y Q (pc, .ref q :: rest, ls, h) c k := by
  obtain ⟨fs, e1, e2⟩ := mm_bind e
  obtain ⟨hq, hc⟩ := fx_obj_s e1
  split at e2
  · next x hx =>
    cases e2
    refine go_p hX cd hf (P := q ∈ h.1) ?_ hq g
    simp only [mm_st, mm_a1, mm_obj, hc, if_true, hx]
  · cases e2
theorem go_pV (hX : mm_mono X) {ix ci f : Nat} {v : Value} {h2 : mm_S} (cd : mm_cd y = K) (hf : mm_find K pc = some (.putfield ix, ci, f)) (e : fx_pV h q ci f v = some h2) (g : mm_Ex (mm_Run X d) y Q (pc + 3, rest, ls, h2) c k) : mm_Ex (mm_Run X d) y Q (pc, v :: .ref q :: rest, ls, h) c k := by
  obtain ⟨fs, e1, e2⟩ := mm_bind e
  obtain ⟨hq, hc⟩ := fx_obj_s e1
  rcases mm_ite e2 with ⟨⟨h1, h3, h4⟩, e2⟩ | ⟨-, e2⟩
  · cases e2
    refine go_p hX cd hf (P := q ∈ h.1 ∧ f < fs.length ∧ mm_fit (mm_fty ci f) v) ?_ ⟨hq, h1, h3, h4⟩ g
    simp only [mm_st, mm_obj, hc, if_true]
  · cases e2
theorem go_aI (hX : mm_mono X) {j v : Int32} (cd : mm_cd y = K) (hf : mm_find K pc = some (.iaload, a, b)) (e : fx_aI h q j = some v) (g : mm_Ex (mm_Run X d) y Q (pc + 1, .int v :: rest, ls, h) c k) : mm_Ex (mm_Run X d) y Q (pc, .int j :: .ref q :: rest, ls, h) c k := by
  obtain ⟨z, e1, e2⟩ := mm_bind e
  obtain ⟨hq, hc, ht⟩ := fx_arI_s e1
  rcases mm_ite e2 with ⟨hi, e2⟩ | ⟨-, e2⟩
  · cases e2
    refine go_p hX cd hf (P := q ∈ h.1 ∧ z.1 = 0 ∧ vp_in j z.2.1) ?_ ⟨hq, List.mem_singleton.mp ht, fx_in_of hi⟩ g
    simp only [mm_st, mm_ai, mm_arI, hc]
  · cases e2
theorem go_aB (hX : mm_mono X) {j v : Int32} (cd : mm_cd y = K) (hf : mm_find K pc = some (.baload, a, b)) (e : fx_aB h q j = some v) (g : mm_Ex (mm_Run X d) y Q (pc + 1, .int v :: rest, ls, h) c k) : mm_Ex (mm_Run X d) y Q (pc, .int j :: .ref q :: rest, ls, h) c k := by
  obtain ⟨z, e1, e2⟩ := mm_bind e
  obtain ⟨hq, hc, ht⟩ := fx_arI_s e1
  rcases mm_ite e2 with ⟨hi, e2⟩ | ⟨-, e2⟩
  · cases e2
    refine go_p hX cd hf (P := q ∈ h.1 ∧ (z.1 = 1 ∨ z.1 = 4) ∧ vp_in j z.2.1) ?_ ⟨hq, by simpa using ht, fx_in_of hi⟩ g
    simp only [mm_st, mm_ai, mm_arI, hc]
  · cases e2
theorem go_aR (hX : mm_mono X) {j : Int32} {v : Nat} (cd : mm_cd y = K) (hf : mm_find K pc = some (.aaload, a, b)) (e : fx_aR h q j = some v) (g : mm_Ex (mm_Run X d) y Q (pc + 1, .ref v :: rest, ls, h) c k) : mm_Ex (mm_Run X d) y Q (pc, .int j :: .ref q :: rest, ls, h) c k := by
  obtain ⟨z, e1, e2⟩ := mm_bind e
  obtain ⟨hq, hc, h5, h9⟩ := fx_arR_s e1
  rcases mm_ite e2 with ⟨hi, e2⟩ | ⟨-, e2⟩
  · refine go_p hX cd hf (P := q ∈ h.1 ∧ 5 ≤ z.1 ∧ z.1 < 9 ∧ vp_in j z.2.1) ?_ ⟨hq, h5, h9, fx_in_of hi⟩ g
    simp only [mm_st, mm_ai, mm_arR, hc, e2, va_rf]
  · cases e2
theorem go_sI (hX : mm_mono X) {j x : Int32} {h2 : mm_S} (cd : mm_cd y = K) (hf : mm_find K pc = some (.iastore, a, b)) (e : fx_sI h q j x = some h2) (g : mm_Ex (mm_Run X d) y Q (pc + 1, rest, ls, h2) c k) : mm_Ex (mm_Run X d) y Q (pc, .int x :: .int j :: .ref q :: rest, ls, h) c k := by
  obtain ⟨z, e1, e2⟩ := mm_bind e
  obtain ⟨hq, hc, ht⟩ := fx_arI_s e1
  have ht := List.mem_singleton.mp ht
  rcases mm_ite e2 with ⟨hi, e2⟩ | ⟨-, e2⟩
  · cases e2
    refine go_p hX cd hf (P := q ∈ h.1 ∧ z.1 = 0 ∧ vp_in j z.2.1) ?_ ⟨hq, ht, fx_in_of hi⟩ g
    simp only [mm_st, mm_arI, hc, ht]
  · cases e2
theorem go_sB (hX : mm_mono X) {j x : Int32} {h2 : mm_S} (cd : mm_cd y = K) (hf : mm_find K pc = some (.bastore, a, b)) (e : fx_sB h q j x = some h2) (g : mm_Ex (mm_Run X d) y Q (pc + 1, rest, ls, h2) c k) : mm_Ex (mm_Run X d) y Q (pc, .int x :: .int j :: .ref q :: rest, ls, h) c k := by
  obtain ⟨z, e1, e2⟩ := mm_bind e
  obtain ⟨hq, hc, ht⟩ := fx_arI_s e1
  rcases mm_ite e2 with ⟨hi, e2⟩ | ⟨-, e2⟩
  · rcases mm_ite e2 with ⟨h1, e2⟩ | ⟨h1, e2⟩
    · cases e2
      refine go_p hX cd hf (P := q ∈ h.1 ∧ vp_in j z.2.1) ?_ ⟨hq, fx_in_of hi⟩ g
      simp only [mm_st, mm_arI, hc, h1, if_true]
    · cases e2
      have h4 : z.1 = 4 := by
        simp only [List.mem_cons, List.not_mem_nil, or_false] at ht
        exact ht.resolve_left h1
      refine go_p hX cd hf (P := q ∈ h.1 ∧ vp_in j z.2.1) ?_ ⟨hq, fx_in_of hi⟩ g
      simp only [mm_st, mm_arI, hc, h4, if_true, if_neg (show ¬ (4 : Nat) = 1 by decide)]
  · cases e2
theorem go_sR (hX : mm_mono X) {j : Int32} {v : Nat} {h2 : mm_S} (cd : mm_cd y = K) (hf : mm_find K pc = some (.aastore, a, b)) (e : fx_sR h q j v = some h2) (g : mm_Ex (mm_Run X d) y Q (pc + 1, rest, ls, h2) c k) : mm_Ex (mm_Run X d) y Q (pc, .ref v :: .int j :: .ref q :: rest, ls, h) c k := by
  obtain ⟨z, e1, e2⟩ := mm_bind e
  obtain ⟨hq, hc, h5, h9⟩ := fx_arR_s e1
  rcases mm_ite e2 with ⟨⟨hi, hv⟩, e2⟩ | ⟨-, e2⟩
  · split at e2
    · next c2 fs hcv =>
      rcases mm_ite e2 with ⟨⟨h6, h7⟩, e2⟩ | ⟨-, e2⟩
      · cases e2
        refine go_p hX cd hf (P := q ∈ h.1 ∧ v ∈ h.1 ∧ mm_tyl[z.1]? = some (.object (mm_C c2).1) ∧ c2 < 8 ∧ vp_in j z.2.1) ?_ ⟨hq, hv, h6, h7, fx_in_of hi⟩ g
        simp only [mm_st, mm_arR, mm_obj, hc, hcv]
      · cases e2
    · cases e2
  · cases e2
theorem go_len (hX : mm_mono X) {v : Int32} (cd : mm_cd y = K) (hf : mm_find K pc = some (.arraylength, a, b)) (e : fx_len h q = some v) (g : mm_Ex (mm_Run X d) y Q (pc + 1, .int v :: rest, ls, h) c k) : mm_Ex (mm_Run X d) y Q (pc, .ref q :: rest, ls, h) c k := by
  unfold fx_len at e
  rcases mm_ite e with ⟨hq, e⟩ | ⟨-, e⟩
  · split at e
    · next t x hc =>
      rcases mm_ite e with ⟨h9, e⟩ | ⟨-, e⟩
      · cases e
        refine go_p hX cd hf (P := q ∈ h.1 ∧ t < 9) ?_ ⟨hq, h9⟩ g
        simp only [mm_st, mm_a1, hc]
      · cases e
    · cases e
  · cases e
theorem go_div (hX : mm_mono X) {x z v : Int32} (cd : mm_cd y = K) (hf : mm_find K pc = some (.idiv, a, b)) (e : fx_div x z = some v) (g : mm_Ex (mm_Run X d) y Q (pc + 1, .int v :: rest, ls, h) c k) : mm_Ex (mm_Run X d) y Q (pc, .int z :: .int x :: rest, ls, h) c k := by
  unfold fx_div at e
  rcases mm_ite e with ⟨-, e⟩ | ⟨h0, e⟩
  · cases e
  · cases e
    exact go_p hX cd hf rfl h0 g
theorem go_rem (hX : mm_mono X) {x z v : Int32} (cd : mm_cd y = K) (hf : mm_find K pc = some (.irem, a, b)) (e : fx_rem x z = some v) (g : mm_Ex (mm_Run X d) y Q (pc + 1, .int v :: rest, ls, h) c k) : mm_Ex (mm_Run X d) y Q (pc, .int z :: .int x :: rest, ls, h) c k := by
  unfold fx_rem at e
  rcases mm_ite e with ⟨-, e⟩ | ⟨h0, e⟩
  · cases e
  · cases e
    exact go_p hX cd hf rfl h0 g
theorem go_to (hX : mm_mono X) {off : Int} (tgt : Nat) (cd : mm_cd y = K) (hf : mm_find K pc = some (.goto off, a, b)) (ht : (pc : Int) + off = (tgt : Int)) (g : mm_Ex (mm_Run X d) y Q (tgt, st, ls, h) c k) : mm_Ex (mm_Run X d) y Q (pc, st, ls, h) c k := by
  have e : mm_to pc off = tgt := by
    unfold mm_to
    omega
  rw [← e] at g
  exact go_p hX cd hf rfl (by omega) g
def mm_cnd (cd : Jvm.ClassFile.Cond) (x y : Int32) : Prop := match cd with
  | .eq => x = y
  | .ne => x ≠ y
  | .lt => x < y
  | .ge => y ≤ x
  | .gt => y < x
  | .le => x ≤ y
theorem mm_cm_t {cd : Jvm.ClassFile.Cond} {x y : Int32} {F G : mm_F} (hc : mm_cnd cd x y) : mm_cm cd x y F G = F := by
  cases cd <;> exact if_pos hc
theorem mm_cm_f {cd : Jvm.ClassFile.Cond} {x y : Int32} {F G : mm_F} (hc : ¬ mm_cnd cd x y) : mm_cm cd x y F G = G := by
  cases cd <;> exact if_neg hc
theorem go_ct (hX : mm_mono X) {x z : Int32} {cn : Jvm.ClassFile.Cond} {off : Int} (tgt : Nat) (cd : mm_cd y = K) (hf : mm_find K pc = some (.if_icmp cn off, a, b)) (ht : (pc : Int) + off = (tgt : Int)) (hc : mm_cnd cn x z) (g : mm_Ex (mm_Run X d) y Q (tgt, rest, ls, h) c k) : mm_Ex (mm_Run X d) y Q (pc, .int z :: .int x :: rest, ls, h) c k := by
  have e : mm_to pc off = tgt := by
    unfold mm_to
    omega
  refine go_p hX cd hf rfl (by omega) ?_
  rw [mm_cm_t hc, e]
  exact g
theorem go_cf (hX : mm_mono X) {x z : Int32} {cn : Jvm.ClassFile.Cond} {off : Int} (cd : mm_cd y = K) (hf : mm_find K pc = some (.if_icmp cn off, a, b)) (ht : 0 ≤ (pc : Int) + off) (hc : ¬ mm_cnd cn x z) (g : mm_Ex (mm_Run X d) y Q (pc + 3, rest, ls, h) c k) : mm_Ex (mm_Run X d) y Q (pc, .int z :: .int x :: rest, ls, h) c k := by
  refine go_p hX cd hf rfl ht ?_
  rw [mm_cm_f hc]
  exact g
theorem go_zt (hX : mm_mono X) {x : Int32} {cn : Jvm.ClassFile.Cond} {off : Int} (tgt : Nat) (cd : mm_cd y = K) (hf : mm_find K pc = some (.ifCond cn off, a, b)) (ht : (pc : Int) + off = (tgt : Int)) (hc : mm_cnd cn x 0) (g : mm_Ex (mm_Run X d) y Q (tgt, rest, ls, h) c k) : mm_Ex (mm_Run X d) y Q (pc, .int x :: rest, ls, h) c k := by
  have e : mm_to pc off = tgt := by
    unfold mm_to
    omega
  refine go_p hX cd hf rfl (by omega) ?_
  rw [mm_cm_t hc, e]
  exact g
theorem go_zf (hX : mm_mono X) {x : Int32} {cn : Jvm.ClassFile.Cond} {off : Int} (cd : mm_cd y = K) (hf : mm_find K pc = some (.ifCond cn off, a, b)) (ht : 0 ≤ (pc : Int) + off) (hc : ¬ mm_cnd cn x 0) (g : mm_Ex (mm_Run X d) y Q (pc + 3, rest, ls, h) c k) : mm_Ex (mm_Run X d) y Q (pc, .int x :: rest, ls, h) c k := by
  refine go_p hX cd hf rfl ht ?_
  rw [mm_cm_f hc]
  exact g
theorem go_sw (hX : mm_mono X) {x v : Int32} {dd lo hi : Int} {offs : Array Int} (tgt : Nat) (cd : mm_cd y = K) (hf : mm_find K pc = some (.tableswitch dd lo hi offs, a, b)) (hx : x = v) (hp : 0 ≤ (pc : Int) + dd ∧ (∀ o ∈ offs.toList, 0 ≤ (pc : Int) + o) ∧ (offs.size : Int) = hi - lo + 1) (ht : mm_to pc (if v.toInt < lo ∨ hi < v.toInt then dd else (offs[(v.toInt - lo).toNat]?).getD dd) = tgt) (g : mm_Ex (mm_Run X d) y Q (tgt, rest, ls, h) c k) : mm_Ex (mm_Run X d) y Q (pc, .int x :: rest, ls, h) c k := by
  subst hx
  refine go_p hX cd hf rfl hp ?_
  rw [ht]
  exact g
theorem mm_swd {x : Int32} {n : Nat} (hn : n < 2 ^ 30) (h : ∀ i, i < n → x ≠ nI i) : x.toInt < 0 ∨ (n : Int) - 1 < x.toInt := by
  by_cases h0 : x < 0
  · left
    exact Int32.lt_iff_toInt_lt.mp h0
  · obtain ⟨j, hj, e⟩ := nI_of h0
    right
    rcases Nat.lt_or_ge j n with q | q
    · exact absurd e (h j q)
    · rw [e, nI_toInt hj]
      omega
theorem go_swd (hX : mm_mono X) {x : Int32} {dd hi : Int} {offs : Array Int} (n tgt : Nat) (cd : mm_cd y = K) (hf : mm_find K pc = some (.tableswitch dd 0 hi offs, a, b)) (hn : n < 2 ^ 30) (hh : hi = (n : Int) - 1) (hp : 0 ≤ (pc : Int) + dd ∧ (∀ o ∈ offs.toList, 0 ≤ (pc : Int) + o) ∧ (offs.size : Int) = hi - 0 + 1) (hne : ∀ i, i < n → x ≠ nI i) (ht : mm_to pc dd = tgt) (g : mm_Ex (mm_Run X d) y Q (tgt, rest, ls, h) c k) : mm_Ex (mm_Run X d) y Q (pc, .int x :: rest, ls, h) c k := by
  refine go_p hX cd hf rfl hp ?_
  have hz : x.toInt < 0 ∨ hi < x.toInt := by
    rw [hh]
    exact mm_swd hn hne
  rw [if_pos hz, ht]
  exact g
theorem go_min (hX : mm_mono X) {x z : Int32} (cd : mm_cd y = K) (hf : mm_find K pc = some (.invokestatic i, a, 258)) (hw : mm_wd rest ≤ 8) (g : mm_Ex (mm_Run X d) y Q (pc + 3, .int (if z < x then z else x) :: rest, ls, h) c k) : mm_Ex (mm_Run X d) y Q (pc, .int z :: .int x :: rest, ls, h) c k := by
  refine mm_Ex_go (mm_Run_mono hX d) ?_
  unfold mm_row1
  dsimp only
  rw [cd, hf]
  exact ⟨hw, g⟩
theorem go_max (hX : mm_mono X) {x z : Int32} (cd : mm_cd y = K) (hf : mm_find K pc = some (.invokestatic i, a, 274)) (hw : mm_wd rest ≤ 8) (g : mm_Ex (mm_Run X d) y Q (pc + 3, .int (if x < z then z else x) :: rest, ls, h) c k) : mm_Ex (mm_Run X d) y Q (pc, .int z :: .int x :: rest, ls, h) c k := by
  refine mm_Ex_go (mm_Run_mono hX d) ?_
  unfold mm_row1
  dsimp only
  rw [cd, hf]
  exact ⟨hw, g⟩
theorem go_cp (hX : mm_mono X) {q0 q1 : Nat} {sp dp n : Int32} {h2 : mm_S} (cd : mm_cd y = K) (hf : mm_find K pc = some (.invokestatic i, a, 245)) (hw : mm_wd rest ≤ 8) (e : fx_cp h q0 sp q1 dp n = some h2) (g : mm_Ex (mm_Run X d) y Q (pc + 3, rest, ls, h2) c k) : mm_Ex (mm_Run X d) y Q (pc, .int n :: .int dp :: .ref q1 :: .int sp :: .ref q0 :: rest, ls, h) c k := by
  obtain ⟨z, e1, e2⟩ := mm_bind e
  obtain ⟨w, e3, e4⟩ := mm_bind e2
  obtain ⟨hq, hc, ht⟩ := fx_arI_s e1
  obtain ⟨hq2, hc2, ht2⟩ := fx_arI_s e3
  rcases mm_ite e4 with ⟨⟨h1, ⟨h3, h4, h5⟩, h6, h7, h8⟩, e4⟩ | ⟨-, e4⟩
  · cases e4
    refine mm_Ex_go (mm_Run_mono hX d) ?_
    unfold mm_row1
    dsimp only
    rw [cd, hf]
    show (match h.2 q0, h.2 q1 with
        | .inl (t0, n0, .inl f), .inl (t1, n1, .inl g) => _
        | _, _ => False)
    rw [hc, hc2]
    exact ⟨hq, hq2, h1, by simpa using ht, h3, h4, h5, h6, h7, h8, hw, g⟩
  · cases e4
/-- a call whose callee is known to come to an end with rv in the world h2 -/
theorem go_cS (hX : mm_mono X) {As : List Value} {rv : Option Value} {h2 : mm_S} (cd : mm_cd y = K) (hf : mm_find K pc = some (.invokestatic i, a, b)) (hb : b ≠ 258 ∧ b ≠ 274 ∧ b ≠ 245 ∧ (b / 16 = 2 ∨ b / 16 = 3)) (hn : b % 16 ≤ st.length) (hA : (st.take (b % 16)).reverse = As) (hr : st.drop (b % 16) = rest) (hw : mm_wd rest ≤ 8)
    (hrun : ∀ Q2 : mm_Re → Prop, Q2 (.inl rv, h2) → mm_Run X d a 0 0 As h Q2) (g : mm_Ex (mm_Run X d) y Q (pc + 3, rv.toList ++ rest, ls, h2) c k) : mm_Ex (mm_Run X d) y Q (pc, st, ls, h) c k := by
  refine mm_Ex_go (mm_Run_mono hX d) ?_
  unfold mm_row1
  dsimp only
  rw [cd, hf]
  show mm_do _ _ _ _ _ _ _ _ _ _ _ _ _
  unfold mm_do
  rw [if_neg hb.1, if_neg hb.2.1, if_neg hb.2.2.1, hA, hr]
  exact ⟨hb.2.2.2, hn, 0, 0, Nat.zero_le _, Nat.zero_le _, hw, hrun _ g⟩
theorem go_cV (hX : mm_mono X) {As : List Value} {rv : Option Value} {h2 : mm_S} {ci : Nat} (cd : mm_cd y = K) (hf : mm_find K pc = some (.invokevirtual i, a, b)) (hn : b % 16 ≤ st.length) (hA : (st.take (b % 16)).reverse = As) (hr : st.drop (b % 16) = .ref q :: rest) (ho : fx_is h q ci = some ()) (hk : ci < 8 ∧ (((b / 16 = 4 ∨ b / 16 = 5) ∧ (mm_C ci).1 = (mm_m a).2.1.cls) ∨ (b / 16 = 13 ∧ ci = 7))) (hw : mm_wd rest ≤ 8)
    (hrun : ∀ Q2 : mm_Re → Prop, Q2 (.inl rv, h2) → mm_Run X d a 0 0 (.ref q :: As) h Q2) (g : mm_Ex (mm_Run X d) y Q (pc + 3, rv.toList ++ rest, ls, h2) c k) : mm_Ex (mm_Run X d) y Q (pc, st, ls, h) c k := by
  refine mm_Ex_go (mm_Run_mono hX d) ?_
  unfold mm_row1
  dsimp only
  rw [cd, hf]
  show mm_do _ _ _ _ _ _ _ _ _ _ _ _ _
  unfold mm_do
  rw [hA, hr]
  obtain ⟨fs, e1, -⟩ := mm_bind ho
  obtain ⟨hq, hc⟩ := fx_obj_s e1
  refine ⟨hn, ?_⟩
  dsimp only
  rw [hc]
  exact ⟨Or.inl ⟨hq, hk.1, hk.2⟩, 0, 0, Nat.zero_le _, Nat.zero_le _, hw, hrun _ g⟩
def fx_ms (h : mm_S) (q : Nat) : Option Unit := match h.2 q with
  | .inr (9, []) => some ()
  | _ => none
theorem fx_ms_s {h : mm_S} {q : Nat} {u : Unit} (e : fx_ms h q = some u) : h.2 q = .inr (9, []) := by
  unfold fx_ms at e
  split at e
  · next hc => exact hc
  · cases e
theorem go_cVS (hX : mm_mono X) {As : List Value} {rv : Option Value} {h2 : mm_S} {u : Unit} (cd : mm_cd y = K) (hf : mm_find K pc = some (.invokevirtual i, a, b)) (hn : b % 16 ≤ st.length) (hA : (st.take (b % 16)).reverse = As) (hr : st.drop (b % 16) = .ref q :: rest) (ho : fx_ms h q = some u) (hk : (a = 262 ∨ a = 263) ∧ b / 16 = 4) (hw : mm_wd rest ≤ 8)
    (hrun : ∀ Q2 : mm_Re → Prop, Q2 (.inl rv, h2) → mm_Run X d a 0 0 (.ref q :: As) h Q2) (g : mm_Ex (mm_Run X d) y Q (pc + 3, rv.toList ++ rest, ls, h2) c k) : mm_Ex (mm_Run X d) y Q (pc, st, ls, h) c k := by
  refine mm_Ex_go (mm_Run_mono hX d) ?_
  unfold mm_row1
  dsimp only
  rw [cd, hf]
  show mm_do _ _ _ _ _ _ _ _ _ _ _ _ _
  unfold mm_do
  rw [hA, hr]
  have hc := fx_ms_s ho
  refine ⟨hn, ?_⟩
  dsimp only
  rw [hc]
  exact ⟨Or.inr ⟨hk.1, hk.2, rfl, rfl⟩, 0, 0, Nat.zero_le _, Nat.zero_le _, hw, hrun _ g⟩
theorem go_cSU (hX : mm_mono X) {As : List Value} {rv : Option Value} {h2 : mm_S} {ci : Nat} (cd : mm_cd y = K) (hf : mm_find K pc = some (.invokespecial i, a, b)) (hb : b / 16 = 14) (hn : b % 16 ≤ st.length) (hA : (st.take (b % 16)).reverse = As) (hr : st.drop (b % 16) = .ref q :: rest) (ho : fx_is h q ci = some ()) (hk : ci < 8) (hw : mm_wd rest ≤ 8)
    (hrun : ∀ Q2 : mm_Re → Prop, Q2 (.inl rv, h2) → mm_Run X d a 0 0 (.ref q :: As) h Q2) (g : mm_Ex (mm_Run X d) y Q (pc + 3, rv.toList ++ rest, ls, h2) c k) : mm_Ex (mm_Run X d) y Q (pc, st, ls, h) c k := by
  refine mm_Ex_go (mm_Run_mono hX d) ?_
  unfold mm_row1
  dsimp only
  rw [cd, hf]
  show mm_do _ _ _ _ _ _ _ _ _ _ _ _ _
  unfold mm_do
  have e8 : ¬ b = 128 := by omega
  rw [if_neg e8, if_pos hb, hA, hr]
  obtain ⟨fs, e1, -⟩ := mm_bind ho
  obtain ⟨hq, hc⟩ := fx_obj_s e1
  refine ⟨hn, ?_⟩
  dsimp only
  rw [hc]
  exact ⟨hq, hk, 0, 0, Nat.zero_le _, Nat.zero_le _, hw, hrun _ g⟩
theorem go_iret (hX : mm_mono X) {v : Int32} {ty : FieldType} (cd : mm_cd y = K) (hf : mm_find K pc = some (.ireturn, a, b)) (hr : (mm_m y).2.2.2.2 = some ty) (hn : narrow ty (.int v) = .int v) (g : Q (.inl (some (.int v)), h)) : mm_Ex (mm_Run X d) y Q (pc, [.int v], ls, h) c k := by
  refine mm_Ex_go (mm_Run_mono hX d) ?_
  unfold mm_row1
  dsimp only
  rw [cd, hf]
  exact ⟨ty, hr, hn, g⟩
theorem go_lret (hX : mm_mono X) {v : Int64} (cd : mm_cd y = K) (hf : mm_find K pc = some (.lreturn, a, b)) (hr : (mm_m y).2.2.2.2 = some .long) (g : Q (.inl (some (.long v)), h)) : mm_Ex (mm_Run X d) y Q (pc, [.long v], ls, h) c k := by
  refine mm_Ex_go (mm_Run_mono hX d) ?_
  unfold mm_row1
  dsimp only
  rw [cd, hf]
  exact ⟨hr, g⟩
theorem go_dret (hX : mm_mono X) {v : UInt64} (cd : mm_cd y = K) (hf : mm_find K pc = some (.dreturn, a, b)) (hr : (mm_m y).2.2.2.2 = some .double) (g : Q (.inl (some (.double v)), h)) : mm_Ex (mm_Run X d) y Q (pc, [.double v], ls, h) c k := by
  refine mm_Ex_go (mm_Run_mono hX d) ?_
  unfold mm_row1
  dsimp only
  rw [cd, hf]
  exact ⟨hr, g⟩
theorem go_fret (hX : mm_mono X) {v : UInt32} (cd : mm_cd y = K) (hf : mm_find K pc = some (.freturn, a, b)) (hr : (mm_m y).2.2.2.2 = some .float) (g : Q (.inl (some (.float v)), h)) : mm_Ex (mm_Run X d) y Q (pc, [.float v], ls, h) c k := by
  refine mm_Ex_go (mm_Run_mono hX d) ?_
  unfold mm_row1
  dsimp only
  rw [cd, hf]
  exact ⟨hr, g⟩
theorem go_aret (hX : mm_mono X) {v : Nat} {ty : FieldType} (cd : mm_cd y = K) (hf : mm_find K pc = some (.areturn, a, b)) (hr : (mm_m y).2.2.2.2 = some ty) (ht : (∃ n, ty = .object n) ∨ ∃ t, ty = .array t) (g : Q (.inl (some (.ref v)), h)) : mm_Ex (mm_Run X d) y Q (pc, [.ref v], ls, h) c k := by
  refine mm_Ex_go (mm_Run_mono hX d) ?_
  unfold mm_row1
  dsimp only
  rw [cd, hf]
  exact ⟨ty, hr, ht, g⟩
theorem go_ret (hX : mm_mono X) (cd : mm_cd y = K) (hf : mm_find K pc = some (.return_, a, b)) (hr : (mm_m y).2.2.2.2 = none) (g : Q (.inl none, h)) : mm_Ex (mm_Run X d) y Q (pc, [], ls, h) c k := by
  refine mm_Ex_go (mm_Run_mono hX d) ?_
  unfold mm_row1
  dsimp only
  rw [cd, hf]
  exact ⟨hr, g⟩
theorem go_thr (hX : mm_mono X) (E : String) (cd : mm_cd y = K) (hf : mm_find K pc = some (.new i, a, b)) (hb : b = 16 ∨ b = 17) (hE : mm_exc.getD (mm_th a).2.2.2.2.1 "" = E) (hw : mm_wd st ≤ 8) (hc : 1 ≤ c ∧ 6 ≤ k) (g : Q (.inr E, h)) : mm_Ex (mm_Run X d) y Q (pc, st, ls, h) c k := by
  refine mm_Ex_go (mm_Run_mono hX d) ?_
  unfold mm_row1
  dsimp only
  rw [cd, hf]
  show mm_do _ _ _ _ _ _ _ _ _ _ _ _ _
  unfold mm_do
  have e9 : ¬ b = 9 := by omega
  rw [if_neg e9, if_pos hb, hE]
  exact ⟨hc.1, hc.2, hw, g⟩
end GO
def mm_subs (ls : mm_L) : mm_L → Prop
  | [] => True
  | q :: l => mm_get ls q.1 = some q.2 ∧ mm_subs ls l
theorem mm_subs_of {ls : mm_L} : ∀ {l : mm_L}, mm_subs ls l → ∀ q ∈ l, mm_get ls q.1 = some q.2
  | [], _, _, hq => by cases hq
  | _ :: _, h, q, hq => by
    rcases List.mem_cons.mp hq with e | e
    · rw [e]
      exact h.1
    · exact mm_subs_of h.2 q e
theorem go_ls {C : mm_Cl} {y : Nat} {Q : mm_Re → Prop} {pc : Nat} {st : List Value} {ls : mm_L} (ls2 : mm_L) {h : mm_S} {c k : Nat} (hs : mm_subs ls ls2) (g : mm_Ex C y Q (pc, st, ls2, h) c k) : mm_Ex C y Q (pc, st, ls, h) c k := mm_Ex_ls ls2 (mm_subs_of hs) g
/-! how a function's answer is told -/
def fx_oI (o : Int32 ⊕ String) : Option Value ⊕ String := match o with
  | .inl v => .inl (some (.int v))
  | .inr E => .inr E
def fx_oV (o : Unit ⊕ String) : Option Value ⊕ String := match o with
  | .inl _ => .inl none
  | .inr E => .inr E
def fx_oD (o : UInt64 ⊕ String) : Option Value ⊕ String := match o with
  | .inl v => .inl (some (.double v))
  | .inr E => .inr E
def fx_oF (o : UInt32 ⊕ String) : Option Value ⊕ String := match o with
  | .inl v => .inl (some (.float v))
  | .inr E => .inr E
def fx_ddiv (x y : UInt64) : Option UInt64 := if FP.ddiv x y &&& 0x7fffffffffffffff ≤ 0x7ff0000000000000 then some (FP.ddiv x y) else none
def fx_fdiv (x y : UInt32) : Option UInt32 := if FP.fdiv x y &&& 0x7fffffff ≤ 0x7f800000 then some (FP.fdiv x y) else none
theorem go_ddiv {X : mm_Cl} {d y c k pc a b : Nat} {Q : mm_Re → Prop} {K : List mm_E} {ls : mm_L} {h : mm_S} {rest : List Value} (hX : mm_mono X) {x z v : UInt64} (cd : mm_cd y = K) (hf : mm_find K pc = some (.ddiv, a, b)) (e : fx_ddiv x z = some v) (g : mm_Ex (mm_Run X d) y Q (pc + 1, .double v :: rest, ls, h) c k) : mm_Ex (mm_Run X d) y Q (pc, .double z :: .double x :: rest, ls, h) c k := by
  unfold fx_ddiv at e
  rcases mm_ite e with ⟨h0, e⟩ | ⟨-, e⟩
  · cases e
    exact go_p hX cd hf rfl h0 g
  · cases e
theorem go_fdiv {X : mm_Cl} {d y c k pc a b : Nat} {Q : mm_Re → Prop} {K : List mm_E} {ls : mm_L} {h : mm_S} {rest : List Value} (hX : mm_mono X) {x z v : UInt32} (cd : mm_cd y = K) (hf : mm_find K pc = some (.fdiv, a, b)) (e : fx_fdiv x z = some v) (g : mm_Ex (mm_Run X d) y Q (pc + 1, .float v :: rest, ls, h) c k) : mm_Ex (mm_Run X d) y Q (pc, .float z :: .float x :: rest, ls, h) c k := by
  unfold fx_fdiv at e
  rcases mm_ite e with ⟨h0, e⟩ | ⟨-, e⟩
  · cases e
    exact go_p hX cd hf rfl h0 g
  · cases e

def mm_cv (tys : List (ClassId × FieldType)) (c : mm_Ce) : va_E := match c with
  | .inl (t, x) => .inl ((tys.getD t (0, .int)).1, x)
  | .inr o => .inr o
def mm_ws (tys : List (ClassId × FieldType)) (h : mm_S) : va_W := va_pl h.1 (fun q => mm_cv tys (h.2 q))
def mm_A (b0 : Nat) : Nat → Prop := fun q => b0 ≤ q
/-- where the world tells a written text, one of the known ones lies, and all of those lie there -/
def mm_mk (D : va_G) (h : mm_S) : Prop := (∀ q : Nat, h.2 q = .inr (9, []) → ∃ i : Nat, i < 9 ∧ q = D.1 (100 + i)) ∧ ∀ i : Nat, i < 9 → h.2 (D.1 (100 + i)) = .inr (9, []) ∧ D.1 (100 + i) ∉ h.1
theorem mm_mk_put {D : va_G} {h : mm_S} {q : Nat} {c : mm_Ce} (hm : mm_mk D h) (hq : q ∈ h.1) (hc : c ≠ .inr (9, [])) : mm_mk D (h.1, va_up h.2 q c) := by
  refine ⟨fun x hx => ?_, fun i hi => ⟨?_, (hm.2 i hi).2⟩⟩
  · simp only [va_up] at hx
    split at hx
    · exact absurd hx hc
    · exact hm.1 x hx
  · simp only [va_up]
    split
    · next e => exact absurd (e ▸ hq) (hm.2 i hi).2
    · exact (hm.2 i hi).1
theorem mm_mk_new {D : va_G} {h : mm_S} {q : Nat} {c : mm_Ce} (hm : mm_mk D h) (hq : h.2 q ≠ .inr (9, [])) (hc : c ≠ .inr (9, [])) : mm_mk D (h.1 ++ [q], va_up h.2 q c) := by
  have hne : ∀ i : Nat, i < 9 → ¬ D.1 (100 + i) = q := fun i hi e => hq (e ▸ (hm.2 i hi).1)
  refine ⟨fun x hx => ?_, fun i hi => ⟨?_, fun hx => ?_⟩⟩
  · simp only [va_up] at hx
    split at hx
    · exact absurd hx hc
    · exact hm.1 x hx
  · simp only [va_up]
    split
    · next e => exact absurd e (hne i hi)
    · exact (hm.2 i hi).1
  · rcases List.mem_append.mp hx with hx | hx
    · exact (hm.2 i hi).2 hx
    · exact hne i hi (List.mem_singleton.mp hx)
def mm_rep (D : va_G) (tys : List (ClassId × FieldType)) (b0 : Nat) (h : mm_S) (H : Heap) : Prop := va_P D mm_cl (mm_ws tys h) H ∧ va_D (mm_A b0) (mm_ws tys h) ∧ mm_mk D h
theorem mm_ws_get {tys : List (ClassId × FieldType)} {h : mm_S} {q : Nat} (hq : q ∈ h.1) : ∃ k : Nat, (mm_ws tys h)[k]? = some (q, mm_cv tys (h.2 q)) := by
  obtain ⟨k, hk⟩ := va_pl_get (X := []) (f := fun q => mm_cv tys (h.2 q)) hq
  exact ⟨k, by simpa [mm_ws] using hk⟩
theorem mm_ws_set {A : Nat → Prop} {tys : List (ClassId × FieldType)} {h : mm_S} {q k : Nat} {c : mm_Ce} (hD : va_D A (mm_ws tys h)) (hq : q ∈ h.1) (hk : (mm_ws tys h)[k]? = some (q, mm_cv tys (h.2 q))) : (mm_ws tys h).set k (q, mm_cv tys c) = mm_ws tys (mm_put h q c) := by
  have h1 := va_pl_set (A := A) (X := []) (L := h.1) (f := fun q => mm_cv tys (h.2 q)) (a := q) (k := k) (e := mm_cv tys c) (by simpa [mm_ws] using hD) hq (by simpa [mm_ws] using hk)
  simp only [List.nil_append] at h1
  unfold mm_ws mm_put
  rw [h1]
  refine va_pl_congr fun a => ?_
  simp only [va_up]
  split <;> rfl
theorem mm_at {la : Array Slot} {nL : Nat} {ls : mm_L} {i : Nat} {v : Value} (hl : lv_has la nL ls) (h : mm_get ls i = some v) : la[i]? = some (.val v) := by
  have key : ∀ l : mm_L, mm_get l i = some v → (i, v) ∈ l := by
    intro l
    induction l with
    | nil => intro h; cases h
    | cons q l ih =>
      intro h
      unfold mm_get at h
      split at h
      · next e =>
        cases h
        rw [← e]
        exact List.mem_cons_self
      · exact List.mem_cons_of_mem _ (ih h)
  exact hl.2.2 (i, v) (key ls h)
theorem mm_ix {ls : mm_L} {i : Nat} {v : Value} (h : mm_get ls i = some v) : ∃ k : Nat, ls[k]? = some (i, v) := by
  have key : ∀ l : mm_L, mm_get l i = some v → (i, v) ∈ l := by
    intro l
    induction l with
    | nil => intro h; cases h
    | cons q l ih =>
      intro h
      unfold mm_get at h
      split at h
      · next e =>
        cases h
        rw [← e]
        exact List.mem_cons_self
      · exact List.mem_cons_of_mem _ (ih h)
  exact List.getElem?_of_mem (key ls h)
theorem mm_i1_s {st : List Value} {k : Int32 → List Value → mm_O} {r : Option Prop × mm_F} (h : mm_i1 st k = some r) : ∃ x t, st = .int x :: t ∧ k x t = some r := by
  unfold mm_i1 at h
  split at h
  · exact ⟨_, _, rfl, h⟩
  · cases h
theorem mm_i2_s {st : List Value} {k : Int32 → Int32 → List Value → mm_O} {r : Option Prop × mm_F} (h : mm_i2 st k = some r) : ∃ x y t, st = .int y :: .int x :: t ∧ k x y t = some r := by
  unfold mm_i2 at h
  split at h
  · exact ⟨_, _, _, rfl, h⟩
  · cases h
theorem mm_l1_s {st : List Value} {k : Int64 → List Value → mm_O} {r : Option Prop × mm_F} (h : mm_l1 st k = some r) : ∃ x t, st = .long x :: t ∧ k x t = some r := by
  unfold mm_l1 at h
  split at h
  · exact ⟨_, _, rfl, h⟩
  · cases h
theorem mm_l2_s {st : List Value} {k : Int64 → Int64 → List Value → mm_O} {r : Option Prop × mm_F} (h : mm_l2 st k = some r) : ∃ x y t, st = .long y :: .long x :: t ∧ k x y t = some r := by
  unfold mm_l2 at h
  split at h
  · exact ⟨_, _, _, rfl, h⟩
  · cases h
theorem mm_li_s {st : List Value} {k : Int64 → Int32 → List Value → mm_O} {r : Option Prop × mm_F} (h : mm_li st k = some r) : ∃ x y t, st = .int y :: .long x :: t ∧ k x y t = some r := by
  unfold mm_li at h
  split at h
  · exact ⟨_, _, _, rfl, h⟩
  · cases h
theorem mm_ild_s {ls : mm_L} {i : Nat} {k : Int32 → mm_O} {r : Option Prop × mm_F} (h : mm_ild ls i k = some r) : ∃ x, mm_get ls i = some (.int x) ∧ k x = some r := by
  unfold mm_ild at h
  split at h
  · next e => exact ⟨_, e, h⟩
  · cases h
theorem mm_lld_s {ls : mm_L} {i : Nat} {k : Int64 → mm_O} {r : Option Prop × mm_F} (h : mm_lld ls i k = some r) : ∃ x, mm_get ls i = some (.long x) ∧ k x = some r := by
  unfold mm_lld at h
  split at h
  · next e => exact ⟨_, e, h⟩
  · cases h
theorem mm_ald_s {ls : mm_L} {i : Nat} {k : Nat → mm_O} {r : Option Prop × mm_F} (h : mm_ald ls i k = some r) : ∃ x, mm_get ls i = some (.ref x) ∧ k x = some r := by
  unfold mm_ald at h
  split at h
  · next e => exact ⟨_, e, h⟩
  · cases h
theorem mm_a1_s {st : List Value} {k : Nat → List Value → mm_O} {r : Option Prop × mm_F} (h : mm_a1 st k = some r) : ∃ q t, st = .ref q :: t ∧ k q t = some r := by
  unfold mm_a1 at h
  split at h
  · exact ⟨_, _, rfl, h⟩
  · cases h
theorem mm_ai_s {st : List Value} {k : Nat → Int32 → List Value → mm_O} {r : Option Prop × mm_F} (h : mm_ai st k = some r) : ∃ q j t, st = .int j :: .ref q :: t ∧ k q j t = some r := by
  unfold mm_ai at h
  split at h
  · exact ⟨_, _, _, rfl, h⟩
  · cases h
theorem mm_obj_s {c : mm_Ce} {k : Nat → List Value → mm_O} {r : Option Prop × mm_F} (h : mm_obj c k = some r) : ∃ a fs, c = .inr (a, fs) ∧ k a fs = some r := by
  unfold mm_obj at h
  split at h
  · exact ⟨_, _, rfl, h⟩
  · cases h
theorem mm_arI_s {c : mm_Ce} {k : Nat → Nat → (Nat → Int32) → mm_O} {r : Option Prop × mm_F} (h : mm_arI c k = some r) : ∃ t n g, c = .inl (t, n, .inl g) ∧ k t n g = some r := by
  unfold mm_arI at h
  split at h
  · exact ⟨_, _, _, rfl, h⟩
  · cases h
theorem mm_arL_s {c : mm_Ce} {k : Nat → Nat → (Nat → Int64) → mm_O} {r : Option Prop × mm_F} (h : mm_arL c k = some r) : ∃ t n g, c = .inl (t, n, .inr (.inl g)) ∧ k t n g = some r := by
  unfold mm_arL at h
  split at h
  · exact ⟨_, _, _, rfl, h⟩
  · cases h
theorem mm_arD_s {c : mm_Ce} {k : Nat → Nat → (Nat → UInt64) → mm_O} {r : Option Prop × mm_F} (h : mm_arD c k = some r) : ∃ t n g, c = .inl (t, n, .inr (.inr (.inr (.inl g)))) ∧ k t n g = some r := by
  unfold mm_arD at h
  split at h
  · exact ⟨_, _, _, rfl, h⟩
  · cases h
theorem mm_arR_s {c : mm_Ce} {k : Nat → Nat → (Nat → Option Nat) → mm_O} {r : Option Prop × mm_F} (h : mm_arR c k = some r) : ∃ t n g, c = .inl (t, n, .inr (.inr (.inr (.inr g)))) ∧ k t n g = some r := by
  unfold mm_arR at h
  split at h
  · exact ⟨_, _, _, rfl, h⟩
  · cases h
theorem mm_to_ok {pc : Nat} {off : Int} (h : 0 ≤ (pc : Int) + off) : (pc : Int) + off = (mm_to pc off : Int) := (Int.toNat_of_nonneg h).symm
theorem mm_cl_at {a : Nat} (h : a < 8) : mm_cl[a]? = some (mm_C a) := by
  match a, h with
  | 0, _ => rfl
  | 1, _ => rfl
  | 2, _ => rfl
  | 3, _ => rfl
  | 4, _ => rfl
  | 5, _ => rfl
  | 6, _ => rfl
  | 7, _ => rfl
theorem mm_yin {a : Nat} (h : a < 8) : ∀ w ∈ u_ws (mm_C a).1 (mm_C a).2.1 (mm_C a).2.2, w ∈ mm_W := by
  intro w hw
  refine List.mem_append_right _ (List.mem_append_left _ (List.mem_flatMap.mpr ⟨mm_C a, ?_, hw⟩))
  exact List.mem_of_getElem? (mm_cl_at h)
theorem mm_ftyok {a : Nat} (h : a < 8) : ∀ k, k < (mm_C a).2.2 → parseFieldDescriptor ((mm_C a).2.1 k).2.2.1 = some (mm_fty a k) := by
  match a, h with
  | 0, _ => exact tyX0_ok
  | 1, _ => exact tyX1_ok
  | 2, _ => exact tyX2_ok
  | 3, _ => exact tyX3_ok
  | 4, _ => exact tyX4_ok
  | 5, _ => exact tyX5_ok
  | 6, _ => exact tyX6_ok
  | 7, _ => exact tyJ4_ok
theorem mm_nmok {a : Nat} (h : a < 8) : ∀ x, x < (mm_C a).2.2 → ∀ y, y < (mm_C a).2.2 → x ≠ y → ((mm_C a).2.1 x).2.1 ≠ ((mm_C a).2.1 y).2.1 := by
  match a, h with
  | 0, _ => exact nmX0
  | 1, _ => exact nmX1
  | 2, _ => exact nmX2
  | 3, _ => exact nmX3
  | 4, _ => exact nmX4
  | 5, _ => exact nmX5
  | 6, _ => exact nmX6
  | 7, _ => exact nmJ4
theorem mm_look_in {l : List (Nat × Nat × Nat × Nat)} {i : Nat} {r : Nat × Nat × Nat} (h : mm_look l i = some r) : (i, r) ∈ l := by
  induction l with
  | nil => cases h
  | cons q l ih =>
    unfold mm_look at h
    split at h
    · next e =>
      cases h
      rw [← e]
      exact List.mem_cons_self
    · exact List.mem_cons_of_mem _ (ih h)
theorem mm_own_lt {o i : Nat} {r : Nat × Nat × Nat} (h : mm_look (mm_lnk o) i = some r) : o < 14 := by
  rcases Nat.lt_or_ge o 14 with q | q
  · exact q
  · exfalso
    have e : mm_lnk o = [] := by
      match o, q with
      | n + 14, _ => rfl
    rw [e] at h
    cases h
/-- a row's words are among the words; those of nest mates among theirs -/
theorem mm_row {o i : Nat} {r : Nat × Nat × Nat} (h : mm_look (mm_lnk o) i = some r) : ∀ w ∈ mm_rw o (i, r), w ∈ mm_W := fun w hw =>
  List.mem_append_right _ (List.mem_append_right _ (List.mem_append_right _ (List.mem_append_right _ (List.mem_flatMap.mpr ⟨o, List.mem_range.mpr (mm_own_lt h), List.mem_flatMap.mpr ⟨(i, r), mm_look_in h, hw⟩⟩))))
theorem mm_rowN {o i : Nat} {r : Nat × Nat × Nat} (h : mm_look (mm_lnk o) i = some r) : ∀ w ∈ mm_rn o (i, r), w ∈ mm_N := fun w hw =>
  List.mem_flatMap.mpr ⟨o, List.mem_range.mpr (mm_own_lt h), List.mem_flatMap.mpr ⟨(i, r), mm_look_in h, hw⟩⟩
theorem mm_ty_at {tys : List (ClassId × FieldType)} (ht : tys.map (fun q => q.2) = mm_tyl) {t : Nat} (h : t < 9) : tys[t]? = some ((tys.getD t (0, .int)).1, mm_tyl.getD t .int) := by
  have hl : tys.length = 9 := by
    have := congrArg List.length ht
    simpa [mm_tyl] using this
  have h1 : tys[t]? = some tys[t] := List.getElem?_eq_getElem (by omega)
  rw [List.getD_eq_getElem?_getD, h1]
  have h2 : mm_tyl[t]? = some tys[t].2 := by
    rw [← ht, List.getElem?_map, h1]
    rfl
  rw [List.getD_eq_getElem?_getD, h2]
  rfl

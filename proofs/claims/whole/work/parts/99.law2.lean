/-! the law's loop: what a case of it stands on -/
/-- where the law stands: machine, launch, platform, start, method, what is below, code, classes, types, free cells, what is to hold at the end -/
abbrev LC_ : Type := Program × Launch × Env × State × MethodId × List Frame × Method × Code × va_G × List (ClassId × FieldType) × Nat × (State → Prop)
def LK_ (C : LC_) (b : Nat) (cells slots : Nat) (F : mm_F) : Prop := match C with
  | (p, l, e, s, m, below, meth, cd, D, tys, b0, Qe) => mm_K p l e room_1 s m #[Value.ref b] below meth cd cells slots Qe 9 D tys b0 s.heap F
def SS_ (D : va_G) : Nat → Nat := fun i => D.1 (100 + i)
def LX_ (C : LC_) (b L : Nat) (xs : Nat → Int32) : Prop := match C with
  | (p, l, e, s, m, below, meth, cd, D, tys, b0, Qe) => ZZ p s m #[Value.ref b] meth cd code 9 "GiantStairsLaw" D tys b0 (Am_ D b0) lx_T ∧ tys.map (fun q => q.2) = mm_tyl ∧ l.stackTraces = false ∧ va_X b L xs s s.heap ∧ b < s.heap.size ∧ ¬ mm_A b0 b
theorem LX_sound (l : Launch) (D : va_G) (tys : List (ClassId × FieldType)) (b0 : Nat) (hty : tys.map (fun q => q.2) = mm_tyl) (hl : l.stackTraces = false) : ∀ (d y c k : Nat) (args : List Value) (h : mm_S) (Q : mm_Re → Prop), mm_Run (mm_Xc (SS_ D)) d y c k args h Q → mm_Met l D tys b0 (Am_ D b0) d y c k args h Q :=
  mm_sound l D tys b0 (Am_ D b0) hty (am_AL hl) (mm_Xc (SS_ D)) (mm_Xc_mono _) (x_all hty (am_AL hl) am_zq am_zr am_D2)
section L2
variable {C : LC_} {b L : Nat} {xs : Nat → Int32} {cells slots : Nat} {F F2 : mm_F} {st rest : List Value} {ls : mm_L} {h : mm_S} {pc : Nat}
theorem ll_R (X : LX_ C b L xs) (r : lx_R code 9 F F2) (g : LK_ C b cells slots F2) : LK_ C b cells slots F := by
  obtain ⟨p, l, e, s, m, below, meth, cd, D, tys, b0, Qe⟩ := C
  exact r _ _ _ _ _ _ _ _ _ _ _ _ _ _ _ _ _ (lx_cx X.1 lx_sub X.2.1) g
theorem ll_w {c2 k2 : Nat} (h1 : cells ≤ c2) (h2 : slots ≤ k2) (g : LK_ C b c2 k2 F) : LK_ C b cells slots F := by
  obtain ⟨p, l, e, s, m, below, meth, cd, D, tys, b0, Qe⟩ := C
  intro la H locs hl hr hS
  exact W.widen h1 h2 (g la H locs hl hr hS)
theorem ll_ls (ls2 : mm_L) (hs : ∀ q ∈ ls2, mm_get ls q.1 = some q.2) (g : LK_ C b cells slots (pc, st, ls2, h)) : LK_ C b cells slots (pc, st, ls, h) := by
  obtain ⟨p, l, e, s, m, below, meth, cd, D, tys, b0, Qe⟩ := C
  intro la H locs hl hr hS
  exact g la H locs ⟨hl.1, hl.2.1, fun q hq => mm_at hl (hs q hq)⟩ hr hS
/-- a number of the script -/
theorem ll_ld (X : LX_ C b L xs) {i : Int32} {v : Int32} (hd : decode code pc = .ok (.iaload, 1)) (hin : vp_in i L) (hv : xs i.toNatClampNeg = v) (g : LK_ C b cells slots (pc + 1, .int v :: rest, ls, h)) : LK_ C b cells slots (pc, .int i :: .ref b :: rest, ls, h) := by
  obtain ⟨p, l, e, s, m, below, meth, cd, D, tys, b0, Qe⟩ := C
  obtain ⟨⟨hx, hb, hml, hts, hnw, hown, hK, hlk, hb0, hamb⟩, hty, hl9, hX, hbl, hbA⟩ := X
  intro la H locs hl hr hS
  have g2 := g la H locs hl hr hS
  rw [← hv] at g2
  exact va_sld hx hb hX hbl hbA hS hin hd g2
theorem ll_len (X : LX_ C b L xs) (hd : decode code pc = .ok (.arraylength, 1)) (g : LK_ C b cells slots (pc + 1, .int (nI L) :: rest, ls, h)) : LK_ C b cells slots (pc, .ref b :: rest, ls, h) := by
  obtain ⟨p, l, e, s, m, below, meth, cd, D, tys, b0, Qe⟩ := C
  obtain ⟨⟨hx, hb, hml, hts, hnw, hown, hK, hlk, hb0, hamb⟩, hty, hl9, hX, hbl, hbA⟩ := X
  intro la H locs hl hr hS
  exact va_slen hx hb hX hbl hbA hS hd (g la H locs hl hr hS)
/-- a method of class or reference that throws nothing -/
theorem ll_V (X : LX_ C b L xs) {a d mc ms n idx q ci : Nat} {fs : List Value} {As : List Value} {Q : Option Value → mm_S → Prop} (g : mm_Run (mm_Xc (SS_ C.2.2.2.2.2.2.2.2.1)) d a mc ms (.ref q :: As) h (fun r => ∃ v h2, r = (.inl v, h2) ∧ Q v h2)) (ha : a < 266) (h1 : Cond.methodLink "GiantStairsLaw" idx (mm_m a).2.1 ∈ lx_T) (h2 : Cond.instanceMethod (mm_m a).2.1 ∈ lx_T) (h4 : Cond.selects (mm_m a).2.1.cls (mm_m a).2.1 (mm_m a).2.1 ∈ lx_T) (h3 : Cond.initialized (mm_m a).2.1.cls ∈ lx_T)
    (hp : (parseMethodDescriptor (mm_m a).2.1.desc).map (fun d => d.parameters.length) = some n) (hq : q ∈ h.1) (hcell : h.2 q = .inr (ci, fs)) (hci : ci < 8) (hcls : (mm_C ci).1 = (mm_m a).2.1.cls) (hd : d ≤ 100) (hf : cells + mc ≤ 603072 ∧ slots + ms ≤ 7215210) (hn : As.length = n) (hdg : decode code pc = .ok (.invokevirtual idx, 3)) (hw : mm_wd rest ≤ 8)
    (kk : ∀ (v : Option Value) (h2 : mm_S), Q v h2 → LK_ C b (cells + mc) (slots + ms) (pc + 3, v.toList ++ rest, ls, h2)) : LK_ C b cells slots (pc, As.reverse ++ .ref q :: rest, ls, h) := by
  obtain ⟨p, l, e, s, m, below, meth, cd, D, tys, b0, Qe⟩ := C
  obtain ⟨Z, hty, hl9, hX, hbl, hbA⟩ := X
  intro la H locs hl hr hS
  refine lx_called (nL := 9) (lx_V (n := n) Z (am_AL hl9) lx_sub (LX_sound l D tys b0 hty hl9) g ha h1 h2 h4 h3 hp hq hcell hci hcls ⟨show d + 10 ≤ 2048 by omega, show 64 * d + 320 ≤ 94400 by omega⟩ hf hn hdg hw hl.1 hr hS) hl hS (fun v h9 hq9 => ?_) (fun E h9 ce q9 H1 locs1 hq9 _ _ _ _ _ => ?_)
  · obtain ⟨v2, h3, e1, e2⟩ := hq9
    cases e1
    exact kk v h9 e2
  · obtain ⟨v2, h3, e1, e2⟩ := hq9
    cases e1
/-- a small method of the law -/
theorem ll_S (X : LX_ C b L xs) {y : MethodName} {bytes : ByteArray} {maxL mc ms n idx d : Nat} {hh : List (Nat × Nat × Nat × Nat)} {As : List Value} {Q : Int32 → mm_S → Prop}
    (hM : vx_Met C.2.1 y (Cond.codeWith y bytes maxL (some .int) hh :: lx_T) (mm_rm (d + 1) mc ms) (va_Pc As (mm_B C.2.2.2.2.2.2.2.2.1 C.2.2.2.2.2.2.2.2.2.1 C.2.2.2.2.2.2.2.2.2.2.1 (Am_ C.2.2.2.2.2.2.2.2.1 C.2.2.2.2.2.2.2.2.2.2.1) h)) (mm_Qc C.2.2.2.2.2.2.2.2.1 C.2.2.2.2.2.2.2.2.2.1 C.2.2.2.2.2.2.2.2.2.2.1 (WP_ Q)) (mm_XC C.2.2.2.2.2.2.2.2.1 C.2.2.2.2.2.2.2.2.2.1 C.2.2.2.2.2.2.2.2.2.2.1 (WP_ Q)) mc ms (mm_A C.2.2.2.2.2.2.2.2.2.2.1))
    (h0 : Cond.codeWith y bytes maxL (some .int) hh ∈ lx_T) (h1 : Cond.methodLink "GiantStairsLaw" idx y ∈ lx_T) (h2 : Cond.static y ∈ lx_T) (h3 : Cond.initialized y.cls ∈ lx_T)
    (hd : y.cls ≠ "java/lang/invoke/MethodHandle" ∧ y.cls ≠ "java/lang/invoke/VarHandle" ∧ (parseMethodDescriptor y.desc).map (fun d => d.parameters.length) = some n) (hmx : maxL ≤ 20) (hdd : d ≤ 100) (hf : cells + mc ≤ 603072 ∧ slots + ms ≤ 7215210) (hn : As.length = n) (hdg : decode code pc = .ok (.invokestatic idx, 3)) (hw : mm_wd rest ≤ 8)
    (kk : ∀ (v : Int32) (h2 : mm_S), Q v h2 → LK_ C b (cells + mc) (slots + ms) (pc + 3, .int v :: rest, ls, h2)) : LK_ C b cells slots (pc, As.reverse ++ rest, ls, h) := by
  obtain ⟨p, l, e, s, m, below, meth, cd, D, tys, b0, Qe⟩ := C
  obtain ⟨Z, hty, hl9, hX, hbl, hbA⟩ := X
  have hG : GoodIn lx_T (va_wsS "GiantStairsLaw" idx y (Cond.codeWith y bytes maxL (some .int) hh :: lx_T)) := by
    intro w hw
    unfold va_wsS at hw
    rcases List.mem_append.mp hw with hw | hw
    · simp only [List.mem_cons, List.not_mem_nil, or_false] at hw
      rcases hw with rfl | rfl | rfl
      · exact ⟨h1, lx_Tg h1⟩
      · exact ⟨h2, lx_Tg h2⟩
      · exact ⟨h3, lx_Tg h3⟩
    · exact lx_gT h0 w hw
  intro la H locs hl hr hS
  refine lx_called (nL := 9) (lx_S (n := n) Z (am_AL hl9) hM hG hd rfl rfl ⟨show d + 1 + 9 + 1 ≤ 2048 by omega, show 8 + (maxL + 11) + (64 * (d + 1) + 256) ≤ 94400 by omega⟩ hf hn hdg hw hl.1 hr hS) hl hS (fun v h9 hq9 => ?_) (fun E h9 ce q9 H1 locs1 hq9 _ _ _ _ _ => hq9.elim)
  match v, hq9 with
  | some (.int v), hq9 => exact kk v h9 hq9
  | some (.long _), hq9 => exact hq9.elim
  | some (.float _), hq9 => exact hq9.elim
  | some (.double _), hq9 => exact hq9.elim
  | some (.ref _), hq9 => exact hq9.elim
  | some .null, hq9 => exact hq9.elim
  | none, hq9 => exact hq9.elim
end L2
section LN
variable {K : List mm_E} {F F3 : mm_F} {a b pc : Nat} {st rest : List Value} {ls : mm_L} {h : mm_S} {cc : ByteArray} {nL : Nat}
theorem lr_n (hK : K.all (lx_eok cc nL) = true) {ins : Instr} {F2 : mm_F} (hf : mm_find K pc = some (ins, a, b)) (hs : mm_st ins a b pc st ls h = some (none, F2)) (g : lx_R cc nL F2 F3) : lx_R cc nL (pc, st, ls, h) F3 := by
  refine lr_adv hK 1 (F2 := F2) ?_ g
  unfold mm_adv
  dsimp only
  rw [hf]
  dsimp only
  rw [hs]
  rfl
theorem lr_lL (hK : K.all (lx_eok cc nL) = true) {o n : Nat} {g9 : Nat → Int64} (hf : mm_find K pc = some (.laload, a, b)) (ho : o ∈ h.1) (hc : h.2 o = .inl (2, n + 1, .inr (.inl g9))) (g : lx_R cc nL (pc + 1, .long (g9 0) :: rest, ls, h) F3) : lx_R cc nL (pc, .int (ki 0) :: .ref o :: rest, ls, h) F3 := by
  refine lr_p hK hf (P := o ∈ h.1 ∧ 2 = 2 ∧ vp_in (ki 0) (n + 1)) (F2 := (pc + 1, .long (g9 (ki 0).toNatClampNeg) :: rest, ls, h)) ?_ ⟨ho, rfl, fun z => z.elim (by decide) (fun z => absurd z (by show ¬ n + 1 ≤ 0; omega))⟩ g
  simp only [mm_st, mm_ai, mm_arL, hc]
theorem lr_lD (hK : K.all (lx_eok cc nL) = true) {o n : Nat} {g9 : Nat → UInt64} (hf : mm_find K pc = some (.daload, a, b)) (ho : o ∈ h.1) (hc : h.2 o = .inl (3, n + 1, .inr (.inr (.inr (.inl g9))))) (g : lx_R cc nL (pc + 1, .double (g9 0) :: rest, ls, h) F3) : lx_R cc nL (pc, .int (ki 0) :: .ref o :: rest, ls, h) F3 := by
  refine lr_p hK hf (P := o ∈ h.1 ∧ 3 = 3 ∧ vp_in (ki 0) (n + 1)) (F2 := (pc + 1, .double (g9 (ki 0).toNatClampNeg) :: rest, ls, h)) ?_ ⟨ho, rfl, fun z => z.elim (by decide) (fun z => absurd z (by show ¬ n + 1 ≤ 0; omega))⟩ g
  simp only [mm_st, mm_ai, mm_arD, hc]
end LN
/-- the locals at the head of the loop -/
abbrev ls_ (b x m o o2 n : Nat) : mm_L := [(5, .int (nI n)), (0, .ref b), (1, .ref x), (2, .ref m), (3, .ref o), (4, .ref o2)]
/-- what holds at the head of the loop -/
def LI_ (x m o o2 : Nat) (A : Nat → Nat) (K : Nat → mm_Ce) (h : mm_S) : Prop := (A 209 = x ∧ A 213 = m ∧ A 224 = o ∧ A 225 = o2) ∧ ST_ A K h ∧ (∃ g, K 224 = .inl (2, 1, .inr (.inl g))) ∧ ∃ g, K 225 = .inl (3, 1, .inr (.inr (.inr (.inl g))))
/-- the class's call, whatever fresh cell it takes -/
def CR_ (A : Nat → Nat) (K : Nat → mm_Ce) (ex : List String) (run : (mm_Re → Prop) → Prop) (m : mm_S → Option (Int32 × mm_S)) : Prop := ∀ Q : mm_Re → Prop, (∀ A' o h1 v k, (∀ i, i ≠ 208 → A' i = A i) → OK_ ex o v k → MS_ A' K h1 m v k → Q (fx_oI o, h1)) → run Q

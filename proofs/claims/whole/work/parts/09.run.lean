/-- what a callee does: method, cells, slots, arguments, world, what holds behind it -/
abbrev mm_Cl : Type := Nat → Nat → Nat → List Value → mm_S → (mm_Re → Prop) → Prop
def mm_find : List mm_E → Nat → Option (Instr × Nat × Nat)
  | [], _ => none
  | q :: l, i => if q.1 = i then some q.2 else mm_find l i
def mm_wd (st : List Value) : Nat := (st.map fun v => v.category).sum
/-- a call of a, with these arguments, over this rest of the stack -/
def mm_call (C : mm_Cl) (Q : mm_Re → Prop) (K : mm_F → Nat → Nat → Prop) (a pc : Nat) (As rest : List Value) (ls : mm_L) (h : mm_S) (c k : Nat) : Prop :=
  ∃ mc ms : Nat, mc ≤ c ∧ ms ≤ k ∧ mm_wd rest ≤ 8 ∧ C a mc ms As h (fun r => match r with
    | (.inl v, h2) => K (pc + 3, v.toList ++ rest, ls, h2) (c - mc) (k - ms)
    | (.inr E, h2) => Q (.inr E, h2))
def mm_arn (t : ArrayType) : Option (Nat × (Nat → vp_A)) := match t with
  | .int => some (0, fun n => (n, .inl (fun _ => 0)))
  | .boolean => some (1, fun n => (n, .inl (fun _ => 0)))
  | .long => some (2, fun n => (n, .inr (.inl (fun _ => 0))))
  | .double => some (3, fun n => (n, .inr (.inr (.inr (.inl (fun _ => 0))))))
  | .byte => some (4, fun n => (n, .inl (fun _ => 0)))
  | _ => none
def mm_ati (a : Nat) : Nat := match a with
  | 0 => 5
  | 2 => 6
  | _ => 7
/-- an array of n arrays of m ints, laid at q -/
def mm_mu (h : mm_S) (q n m : Nat) : mm_S := (h.1 ++ (List.range (n + 1)).map (fun j => q + j), fun x => if x = q then .inl (8, n, .inr (.inr (.inr (.inr (fun j => if j < n then some (q + 1 + j) else none))))) else if q < x ∧ x ≤ q + n then .inl (0, m, .inl (fun _ => 0)) else h.2 x)
def mm_fr (h : mm_S) (q n : Nat) : Prop := ∀ j, j ≤ n → q + j ∉ h.1 ∧ h.2 (q + j) ≠ .inr (9, [])
def mm_do (C : mm_Cl) (y : Nat) (Q : mm_Re → Prop) (K : mm_F → Nat → Nat → Prop) (ins : Instr) (a b pc : Nat) (st : List Value) (ls : mm_L) (h : mm_S) (c k : Nat) : Prop := match ins with
  | .invokestatic _ => if b = 258 then match st with
      | .int y :: .int x :: r => mm_wd r ≤ 8 ∧ K (pc + 3, .int (if y < x then y else x) :: r, ls, h) c k
      | _ => False
    else if b = 274 then match st with
      | .int y :: .int x :: r => mm_wd r ≤ 8 ∧ K (pc + 3, .int (if x < y then y else x) :: r, ls, h) c k
      | _ => False
    else if b = 245 then match st with
      | .int n :: .int dp :: .ref q1 :: .int sp :: .ref q0 :: r => match h.2 q0, h.2 q1 with
        | .inl (t0, n0, .inl f), .inl (t1, n1, .inl g) => q0 ∈ h.1 ∧ q1 ∈ h.1 ∧ t0 = t1 ∧ (t0 = 0 ∨ t0 = 4) ∧ ¬ sp < 0 ∧ ¬ dp < 0 ∧ ¬ n < 0 ∧ sp.toNatClampNeg + n.toNatClampNeg ≤ n0 ∧ dp.toNatClampNeg + n.toNatClampNeg ≤ n1 ∧ (∀ i, i < n.toNatClampNeg → fits (mm_tyl.getD t0 .int) (.int (f (sp.toNatClampNeg + i))) = true) ∧ mm_wd r ≤ 8 ∧ K (pc + 3, r, ls, mm_put h q1 (.inl (t1, n1, .inl (va_cpy f g sp.toNatClampNeg dp.toNatClampNeg n.toNatClampNeg)))) c k
        | _, _ => False
      | _ => False
    else (b / 16 = 2 ∨ b / 16 = 3) ∧ b % 16 ≤ st.length ∧ mm_call C Q K a pc (st.take (b % 16)).reverse (st.drop (b % 16)) ls h c k
  | .invokevirtual _ => b % 16 ≤ st.length ∧ match st.drop (b % 16) with
    | .ref q :: rest => match h.2 q with
      | .inr (ci, fs) => ((q ∈ h.1 ∧ ci < 8 ∧ (((b / 16 = 4 ∨ b / 16 = 5) ∧ (mm_C ci).1 = (mm_m a).2.1.cls) ∨ (b / 16 = 13 ∧ ci = 7))) ∨ ((a = 262 ∨ a = 263) ∧ b / 16 = 4 ∧ ci = 9 ∧ fs = [])) ∧ mm_call C Q K a pc (.ref q :: (st.take (b % 16)).reverse) rest ls h c k
      | _ => False
    | _ => False
  | .invokespecial _ => if b = 128 then match st with
      | .ref _ :: rest => mm_wd rest ≤ 8 ∧ K (pc + 3, rest, ls, h) c k
      | _ => False
    else if b / 16 = 14 then b % 16 ≤ st.length ∧ match st.drop (b % 16) with
      | .ref q :: rest => match h.2 q with
        | .inr (ci, _) => q ∈ h.1 ∧ ci < 8 ∧ mm_call C Q K a pc (.ref q :: (st.take (b % 16)).reverse) rest ls h c k
        | _ => False
      | _ => False
    else (b / 16 = 6 ∨ b / 16 = 7) ∧ b % 16 ≤ st.length ∧ match st.drop (b % 16) with
      | .ref q :: rest => mm_call C Q K a pc (.ref q :: (st.take (b % 16)).reverse) rest ls h c k
      | _ => False
  | .anewarray _ => match st with
    | .int n :: rest => (a = 0 ∨ a = 2 ∨ a = 3) ∧ ¬ n < 0 ∧ n.toNatClampNeg ≤ 65536 ∧ 1 ≤ c ∧ n.toNatClampNeg ≤ k ∧ ∀ q : Nat, q ∉ h.1 → h.2 q ≠ .inr (9, []) → K (pc + 3, .ref q :: rest, ls, (h.1 ++ [q], va_up h.2 q (.inl (mm_ati a, n.toNatClampNeg, .inr (.inr (.inr (.inr (fun _ => none)))))))) (c - 1) (k - n.toNatClampNeg)
    | _ => False
  | .new _ => if b = 9 then 1 ≤ c ∧ (mm_C a).2.2 ≤ k ∧ ∀ q : Nat, q ∉ h.1 → h.2 q ≠ .inr (9, []) → K (pc + 3, .ref q :: st, ls, (h.1 ++ [q], va_up h.2 q (.inr (a, mm_dfl a)))) (c - 1) (k - (mm_C a).2.2)
    else if b = 16 ∨ b = 17 then 1 ≤ c ∧ 6 ≤ k ∧ mm_wd st ≤ 8 ∧ Q (.inr (mm_exc.getD (mm_th a).2.2.2.2.1 ""), h)
    else False
  | .newarray t => match st with
    | .int n :: rest => match mm_arn t with
      | some (ti, f) => ¬ n < 0 ∧ n.toNatClampNeg ≤ 65536 ∧ 1 ≤ c ∧ n.toNatClampNeg ≤ k ∧ ∀ q : Nat, q ∉ h.1 → h.2 q ≠ .inr (9, []) → K (pc + 2, .ref q :: rest, ls, (h.1 ++ [q], va_up h.2 q (.inl (ti, f n.toNatClampNeg)))) (c - 1) (k - n.toNatClampNeg)
      | none => False
    | _ => False
  | .multianewarray _ i2 => match st with
    | .int m :: .int n :: rest => i2 = 2 ∧ ¬ n < 0 ∧ ¬ m < 0 ∧ n.toNatClampNeg ≤ 65536 ∧ m.toNatClampNeg ≤ 65536 ∧ 1 + n.toNatClampNeg ≤ c ∧ n.toNatClampNeg + n.toNatClampNeg * m.toNatClampNeg ≤ k ∧ ∀ q : Nat, mm_fr h q n.toNatClampNeg → K (pc + 4, .ref q :: rest, ls, mm_mu h q n.toNatClampNeg m.toNatClampNeg) (c - (1 + n.toNatClampNeg)) (k - (n.toNatClampNeg + n.toNatClampNeg * m.toNatClampNeg))
    | _ => False
  | .ireturn => match st with
    | [.int v] => ∃ ty, (mm_m y).2.2.2.2 = some ty ∧ narrow ty (.int v) = .int v ∧ Q (.inl (some (.int v)), h)
    | _ => False
  | .lreturn => match st with
    | [.long v] => (mm_m y).2.2.2.2 = some .long ∧ Q (.inl (some (.long v)), h)
    | _ => False
  | .dreturn => match st with
    | [.double v] => (mm_m y).2.2.2.2 = some .double ∧ Q (.inl (some (.double v)), h)
    | _ => False
  | .freturn => match st with
    | [.float v] => (mm_m y).2.2.2.2 = some .float ∧ Q (.inl (some (.float v)), h)
    | _ => False
  | .areturn => match st with
    | [.ref v] => ∃ ty, (mm_m y).2.2.2.2 = some ty ∧ ((∃ n, ty = .object n) ∨ ∃ t, ty = .array t) ∧ Q (.inl (some (.ref v)), h)
    | _ => False
  | .return_ => match st with
    | [] => (mm_m y).2.2.2.2 = none ∧ Q (.inl none, h)
    | _ => False
  | ins => match mm_st ins a b pc st ls h with
    | some (none, F) => K F c k
    | some (some P, F) => P ∧ K F c k
    | none => False
/-- one row of the code -/
def mm_row1 (C : mm_Cl) (y : Nat) (Q : mm_Re → Prop) (K : mm_F → Nat → Nat → Prop) (F : mm_F) (c k : Nat) : Prop := match mm_find (mm_cd y) F.1 with
  | some (ins, a, b) => mm_do C y Q K ins a b F.1 F.2.1 F.2.2.1 F.2.2.2 c k
  | none => False
/-- the method comes from here to an end with Q -/
def mm_Ex (C : mm_Cl) (y : Nat) (Q : mm_Re → Prop) (F : mm_F) (c k : Nat) : Prop := ∀ X : mm_F → Nat → Nat → Prop, (∀ F c k, mm_row1 C y Q X F c k → X F c k) → (∀ pc st ls ls2 h c k, (∀ q ∈ ls2, mm_get ls q.1 = some q.2) → X (pc, st, ls2, h) c k → X (pc, st, ls, h) c k) → X F c k
/-- the methods that are not run by the little machine, but by laws of their own -/
def mm_ext : List Nat := [3, 262, 263, 264, 256, 255, 247]
def mm_Run (X : mm_Cl) : Nat → mm_Cl
  | 0 => fun _ _ _ _ _ _ => False
  | d + 1 => fun y c k args h Q => y < 266 ∧ (lg_sl args).length ≤ (mm_m y).2.2.2.1 ∧ if y ∈ mm_ext then X y c k args h Q else mm_Ex (mm_Run X d) y Q (0, [], lv_args 0 args, h) c k
def mm_mono (C : mm_Cl) : Prop := ∀ a mc ms As h (Q1 Q2 : mm_Re → Prop), (∀ r, Q1 r → Q2 r) → C a mc ms As h Q1 → C a mc ms As h Q2
theorem mm_call_mono {C : mm_Cl} (hC : mm_mono C) {Q1 Q2 : mm_Re → Prop} {K1 K2 : mm_F → Nat → Nat → Prop} (hQ : ∀ r, Q1 r → Q2 r) (hK : ∀ F c k, K1 F c k → K2 F c k) {a pc : Nat} {As rest : List Value} {ls : mm_L} {h : mm_S} {c k : Nat} (g : mm_call C Q1 K1 a pc As rest ls h c k) : mm_call C Q2 K2 a pc As rest ls h c k := by
  obtain ⟨mc, ms, h1, h2, h3, h4⟩ := g
  refine ⟨mc, ms, h1, h2, h3, hC _ _ _ _ _ _ _ (fun r hr => ?_) h4⟩
  obtain ⟨o, h5⟩ := r
  cases o with
  | inl v => exact hK _ _ _ hr
  | inr E => exact hQ _ hr
theorem mm_do_mono {C : mm_Cl} (hC : mm_mono C) {y : Nat} {Q1 Q2 : mm_Re → Prop} {K1 K2 : mm_F → Nat → Nat → Prop} (hQ : ∀ r, Q1 r → Q2 r) (hK : ∀ F c k, K1 F c k → K2 F c k) {ins : Instr} {a b pc : Nat} {st : List Value} {ls : mm_L} {h : mm_S} {c k : Nat} (g : mm_do C y Q1 K1 ins a b pc st ls h c k) : mm_do C y Q2 K2 ins a b pc st ls h c k := by
  unfold mm_do at g ⊢
  split at g
  · split at g
    · next e =>
      rw [if_pos e]
      split at g
      · exact ⟨g.1, hK _ _ _ g.2⟩
      · exact g.elim
    next e =>
    rw [if_neg e]
    split at g
    · next e =>
      rw [if_pos e]
      split at g
      · exact ⟨g.1, hK _ _ _ g.2⟩
      · exact g.elim
    next e =>
    rw [if_neg e]
    split at g
    · next e =>
      rw [if_pos e]
      split at g
      · split at g
        · obtain ⟨h1, h2, h3, h4, h5, h6, h7, h8, h9, h10, h11, h12⟩ := g
          exact ⟨h1, h2, h3, h4, h5, h6, h7, h8, h9, h10, h11, hK _ _ _ h12⟩
        · exact g.elim
      · exact g.elim
    next e =>
    rw [if_neg e]
    exact ⟨g.1, g.2.1, mm_call_mono hC hQ hK g.2.2⟩
  · refine ⟨g.1, ?_⟩
    have g := g.2
    split at g
    · split at g
      · exact ⟨g.1, mm_call_mono hC hQ hK g.2⟩
      · exact g.elim
    · exact g.elim
  · split at g
    · next e =>
      rw [if_pos e]
      split at g
      · exact ⟨g.1, hK _ _ _ g.2⟩
      · exact g.elim
    next e =>
    rw [if_neg e]
    split at g
    · next e =>
      rw [if_pos e]
      refine ⟨g.1, ?_⟩
      have g := g.2
      split at g
      · split at g
        · exact ⟨g.1, g.2.1, mm_call_mono hC hQ hK g.2.2⟩
        · exact g.elim
      · exact g.elim
    next e =>
    rw [if_neg e]
    refine ⟨g.1, g.2.1, ?_⟩
    have g := g.2.2
    split at g
    · exact mm_call_mono hC hQ hK g
    · exact g.elim
  · split at g
    · exact ⟨g.1, g.2.1, g.2.2.1, g.2.2.2.1, g.2.2.2.2.1, fun q hq h9 => hK _ _ _ (g.2.2.2.2.2 q hq h9)⟩
    · exact g.elim
  · split at g
    · next e =>
      rw [if_pos e]
      exact ⟨g.1, g.2.1, fun q hq h9 => hK _ _ _ (g.2.2 q hq h9)⟩
    next e =>
    rw [if_neg e]
    split at g
    · next e2 =>
      rw [if_pos e2]
      exact ⟨g.1, g.2.1, g.2.2.1, hQ _ g.2.2.2⟩
    · exact g.elim
  · split at g
    · split at g
      · exact ⟨g.1, g.2.1, g.2.2.1, g.2.2.2.1, fun q hq h9 => hK _ _ _ (g.2.2.2.2 q hq h9)⟩
      · exact g.elim
    · exact g.elim
  · split at g
    · exact ⟨g.1, g.2.1, g.2.2.1, g.2.2.2.1, g.2.2.2.2.1, g.2.2.2.2.2.1, g.2.2.2.2.2.2.1, fun q hq => hK _ _ _ (g.2.2.2.2.2.2.2 q hq)⟩
    · exact g.elim
  · split at g
    · obtain ⟨ty, h1, h2, h3⟩ := g
      exact ⟨ty, h1, h2, hQ _ h3⟩
    · exact g.elim
  · split at g
    · exact ⟨g.1, hQ _ g.2⟩
    · exact g.elim
  · split at g
    · exact ⟨g.1, hQ _ g.2⟩
    · exact g.elim
  · split at g
    · exact ⟨g.1, hQ _ g.2⟩
    · exact g.elim
  · split at g
    · obtain ⟨ty, h1, h2, h3⟩ := g
      exact ⟨ty, h1, h2, hQ _ h3⟩
    · exact g.elim
  · split at g
    · exact ⟨g.1, hQ _ g.2⟩
    · exact g.elim
  · split at g
    · exact hK _ _ _ g
    · exact ⟨g.1, hK _ _ _ g.2⟩
    · exact g.elim
theorem mm_row1_mono {C : mm_Cl} (hC : mm_mono C) {y : Nat} {Q1 Q2 : mm_Re → Prop} {K1 K2 : mm_F → Nat → Nat → Prop} (hQ : ∀ r, Q1 r → Q2 r) (hK : ∀ F c k, K1 F c k → K2 F c k) {F : mm_F} {c k : Nat} (g : mm_row1 C y Q1 K1 F c k) : mm_row1 C y Q2 K2 F c k := by
  unfold mm_row1 at g ⊢
  split at g
  · next e =>
    exact mm_do_mono hC hQ hK g
  · exact g.elim
theorem mm_Ex_go {C : mm_Cl} (hC : mm_mono C) {y : Nat} {Q : mm_Re → Prop} {F : mm_F} {c k : Nat} (g : mm_row1 C y Q (mm_Ex C y Q) F c k) : mm_Ex C y Q F c k := by
  intro X hX hL
  exact hX _ _ _ (mm_row1_mono hC (fun _ h => h) (fun _ _ _ h => h X hX hL) g)
/-- fewer locals, in any order -/
theorem mm_Ex_ls {C : mm_Cl} {y : Nat} {Q : mm_Re → Prop} {pc : Nat} {st : List Value} {ls : mm_L} (ls2 : mm_L) {h : mm_S} {c k : Nat} (hs : ∀ q ∈ ls2, mm_get ls q.1 = some q.2) (g : mm_Ex C y Q (pc, st, ls2, h) c k) : mm_Ex C y Q (pc, st, ls, h) c k := by
  intro X hX hL
  exact hL _ _ _ _ _ _ _ hs (g X hX hL)
theorem mm_Ex_post {C : mm_Cl} (hC : mm_mono C) {y : Nat} {Q1 Q2 : mm_Re → Prop} (hQ : ∀ r, Q1 r → Q2 r) {F : mm_F} {c k : Nat} (g : mm_Ex C y Q1 F c k) : mm_Ex C y Q2 F c k := by
  intro X hX hL
  exact g X (fun F c k hr => hX F c k (mm_row1_mono hC hQ (fun _ _ _ h => h) hr)) hL
theorem mm_Run_mono {X : mm_Cl} (hX : mm_mono X) : ∀ d, mm_mono (mm_Run X d)
  | 0 => fun _ _ _ _ _ _ _ _ h => h.elim
  | d + 1 => fun y _ _ _ _ _ _ hQ h => ⟨h.1, h.2.1, by
    have h3 := h.2.2
    split at h3
    · next e =>
      rw [if_pos e]
      exact hX _ _ _ _ _ _ _ hQ h3
    · next e =>
      rw [if_neg e]
      exact mm_Ex_post (mm_Run_mono hX d) hQ h3⟩

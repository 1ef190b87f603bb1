/-! the law's start, out of what the Statement gives -/
theorem st_pr {args : Array Value} {s : State} {C : String} {y : MethodName} {n : Nat} (hi : (Cond.instantiable C n).before args s = true) (hp : (Cond.privateMethod y).before args s = true) (hs : (Cond.sameMethod y.cls y.cls y.name y.desc).before args s = true) {z w : MethodName} (hz : (Cond.selects C z w).before args s = true) (hw : w.cls = y.cls) : (Cond.selects C y y).before args s = true := by
  obtain ⟨cC, kC, hfc, hk, hkind, -⟩ := Cond.instantiable_spec hi
  obtain ⟨c9, r9, m9, a1, a2, a3, a4, mk, a5, a6⟩ := Cond.selects_spec (o := none) (idx := []) hz
  unfold Cond.before Cond.holds at hs hp ⊢
  simp only [Cond.value] at hs hp ⊢
  rw [hfc]
  obtain ⟨yc, yn, yd⟩ := y
  dsimp only at hs hp hw ⊢
  cases h1 : s.methodNamed? ⟨yc, yn, yd⟩ with
  | none =>
    rw [h1] at hp
    simp at hp
  | some m =>
    rw [h1] at hs hp
    cases h2 : s.methodFound? yc yn yd with
    | none =>
      rw [h2] at hs
      cases h3 : s.vm.findClass yc <;> simp [h3] at hs
    | some r =>
      rw [h2] at hs
      cases h3 : s.vm.findClass yc with
      | none => simp [h3] at hs
      | some cy =>
        rw [h3] at hs
        have er : r = m ∧ Option.any (fun x => !x.isInterface) s.vm.classes[cy]? = true := by simpa using hs
        replace er := er.1
        subst er
        cases h4 : s.vm.method? r with
        | none => simp [h4] at hp
        | some mt =>
          have hpr : mt.isPrivate = true := by simpa [h4] using hp
          have e1 : selectMethod {} s.vm cC r = .method r := by
            unfold selectMethod
            rw [h4]
            simp [hpr]
          have em : r.cls = m9.cls := by
            unfold State.methodNamed? at h1 a3
            rw [hw] at a3
            simp only [h3, Option.bind_eq_bind, Option.bind_some] at h1 a3
            obtain ⟨k1, -, h5⟩ := mm_bind h1
            obtain ⟨i1, -, h6⟩ := mm_bind h5
            obtain ⟨k2, -, h7⟩ := mm_bind a3
            obtain ⟨i2, -, h8⟩ := mm_bind h7
            cases h6
            cases h8
            rfl
          simp [e1, em, a5, a6]

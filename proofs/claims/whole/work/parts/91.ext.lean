/-! methods that are not run by the little machine alone -/
section EX
variable {p : Program} {l : Launch} {e : Env} {R : Room} {s : State} {m : MethodId} {args : Array Value} {below : List Frame} {meth : Method} {cd : Code} {H : Heap} {locs : List Loc}
variable {cc : ByteArray} {nL o y d c k : Nat} {ini : Bool} {D : va_G} {tys : List (ClassId × FieldType)} {b0 : Nat} {Amb : State → Heap → Prop} {X : mm_Cl} {S : Nat → Nat} {Q : mm_Re → Prop}
/-- a static field is read -/
theorem mm_gst (Z : mm_Z p l R s m args meth cd cc nL o ini y d c k D tys b0 Amb X) {i a pc c2 k2 : Nat} {st : List Value} {ls : mm_L} {h : mm_S} {v : Value} (hd : decode cc pc = .ok (.getstatic i, 3)) (hlk : mm_look (mm_lnk o) i = some (20, a, 0)) (hv : va_Z (mm_sn a).1 (mm_sn a).2.1 (mm_sn a).2.2 v (mm_A b0) s s.heap)
    (g : mm_KK p l e R s m args below meth cd c k Q nL D tys b0 (pc + 3, v :: st, ls, h) c2 k2) : mm_KK p l e R s m args below meth cd c k Q nL D tys b0 (pc, st, ls, h) c2 k2 := by
  obtain ⟨CX, -, -, -, -, -, -, -, -⟩ := id Z
  obtain ⟨hx, hb, hml, hts, hnw, hown, hini, hK, hty⟩ := id CX
  intro hc hk2 la H locs hl hr hS
  have w := mm_rowB hts hlk
  exact va_gets hx hb hv hS hown (w _ List.mem_cons_self) (fun x hx => hx) hd (g hc hk2 la H locs hl hr hS)
theorem kk_row (hy : y < 266) (Z : mm_Z p l R s m args meth cd (mm_m y).2.2.1 (mm_m y).2.2.2.1 (mm_m y).1 (mm_ini y) y d c k D tys b0 Amb X) {F : mm_F} {c2 k2 : Nat} (g : mm_row1 (mm_Run X d) y Q (mm_KK p l e R s m args below meth cd c k Q (mm_m y).2.2.2.1 D tys b0) F c2 k2) :
    mm_KK p l e R s m args below meth cd c k Q (mm_m y).2.2.2.1 D tys b0 F c2 k2 := by
  have hcd := List.all_eq_true.mp (mm_cdok y hy)
  obtain ⟨pc, st, ls, h2⟩ := F
  unfold mm_row1 at g
  split at g
  · next ins a b ef =>
    have h9 := hcd _ (mm_find_in ef)
    simp only [mm_eok, Bool.and_eq_true, decide_eq_true_eq] at h9
    exact mm_doS (cc := (mm_m y).2.2.1) (o := (mm_m y).1) (ini := mm_ini y) (d := d) (X := X) Z h9.1 h9.2.1 h9.2.2 g
  · exact g.elim
theorem kk_adv (hy : y < 266) (Z : mm_Z p l R s m args meth cd (mm_m y).2.2.1 (mm_m y).2.2.2.1 (mm_m y).1 (mm_ini y) y d c k D tys b0 Amb X) {K : List mm_E} (ec : mm_cd y = K) {c2 k2 : Nat} : ∀ (n : Nat) {F F2 : mm_F}, mm_adv K n F = some F2 → mm_KK p l e R s m args below meth cd c k Q (mm_m y).2.2.2.1 D tys b0 F2 c2 k2 →
    mm_KK p l e R s m args below meth cd c k Q (mm_m y).2.2.2.1 D tys b0 F c2 k2
  | 0, F, F2, h, g => by
    cases h
    exact g
  | n + 1, (pc, st, ls, h), F2, e, g => by
    unfold mm_adv at e
    dsimp only at e
    split at e
    · next ins a b hf =>
      split at e
      · next F3 hs =>
        refine kk_row hy Z ?_
        unfold mm_row1
        dsimp only
        rw [ec, hf]
        dsimp only
        rw [mm_do_st hs, hs]
        exact kk_adv hy Z ec n e g
      · cases e
    · cases e
theorem kk_obj (hy : y < 266) (Z : mm_Z p l R s m args meth cd (mm_m y).2.2.1 (mm_m y).2.2.2.1 (mm_m y).1 (mm_ini y) y d c k D tys b0 Amb X) {K : List mm_E} (ec : mm_cd y = K) {c2 k2 pc i a q : Nat} {rest : List Value} {ls : mm_L} {h : mm_S} (hf : mm_find K pc = some (.invokespecial i, a, 128)) (hw : mm_wd rest ≤ 8)
    (g : mm_KK p l e R s m args below meth cd c k Q (mm_m y).2.2.2.1 D tys b0 (pc + 3, rest, ls, h) c2 k2) : mm_KK p l e R s m args below meth cd c k Q (mm_m y).2.2.2.1 D tys b0 (pc, .ref q :: rest, ls, h) c2 k2 := by
  refine kk_row hy Z ?_
  unfold mm_row1
  dsimp only
  rw [ec, hf]
  show mm_do _ _ _ _ _ _ _ _ _ _ _ _ _
  unfold mm_do
  rw [if_pos rfl]
  exact ⟨hw, g⟩
def va_CS1 (b0 : Nat) (Amb : State → Heap → Prop) : Prop := ∀ (u : State) (H : Heap), Amb u H → va_Z "java/lang/String" "COMPACT_STRINGS" "Z" (.int 1) (mm_A b0) u H
theorem c_255 : mm_cd 255 = k_J5_isLatin1_aae02 := rfl
theorem c_247 : mm_cd 247 = k_J5_init_d00df := rfl
theorem x_255 (hty : tys.map (fun q => q.2) = mm_tyl) (hA : mm_AL l D tys b0 Amb) (hX : mm_mono X) (hC : va_CS1 b0 Amb) (IH : ∀ (y c k : Nat) (args : List Value) (h : mm_S) (Q : mm_Re → Prop), mm_Run X d y c k args h Q → mm_Met l D tys b0 Amb d y c k args h Q)
    {q : Nat} {v : Int32} {h : mm_S} (hF : F_J5_isLatin1_aae02 S h q = some v) (hQ : Q (.inl (some (.int v)), h)) : mm_Met l D tys b0 Amb (d + 1) 255 c k [.ref q] h Q := by
  refine mm_enter l D tys b0 Amb hty hA X IH (by decide) (Nat.le_of_ble_eq_true rfl) fun p e s m below meth cd Z => ?_
  have hamb := Z.2.2.2.2.2.2.1
  refine mm_gst (v := .int 1) (a := 0) (i := 18) Z (by decide +kernel) (by decide) (hC s s.heap hamb) ?_
  refine mm_walk (by decide) Z ?_
  show mm_Ex (mm_Run X d) 255 Q (3, [.int 1], [(0, .ref q)], h) c k
  unfold F_J5_isLatin1_aae02 at hF
  obtain ⟨fs, e1, e2⟩ := mm_bind hF
  split at e2
  · next x e3 =>
    split at e2
    · next e4 =>
      cases e2
      subst e4
      refine go_zf hX c_255 rfl (by decide) (show ¬ (1 : Int32) = 0 by decide) ?_
      refine go_adv hX c_255 1 (F2 := (7, [.ref q], [(0, .ref q)], h)) rfl ?_
      refine go_gI hX (v := 0) c_255 rfl ?_ ?_
      · unfold fx_gI
        rw [e1]
        show (match fs[1]? with | some (.int x) => some x | _ => none) = _
        rw [e3]
      refine go_zf hX c_255 rfl (by decide) (show ¬ (0 : Int32) ≠ 0 by decide) ?_
      refine go_adv hX c_255 1 (F2 := (14, [.int (ki 1)], [(0, .ref q)], h)) rfl ?_
      refine go_to hX 18 c_255 rfl rfl ?_
      exact go_iret hX c_255 rfl rfl rfl hQ
    · cases e2
  · cases e2
theorem x_247 (hty : tys.map (fun q => q.2) = mm_tyl) (hA : mm_AL l D tys b0 Amb) (hX : mm_mono X) (hC : va_CS1 b0 Amb) (IH : ∀ (y c k : Nat) (args : List Value) (h : mm_S) (Q : mm_Re → Prop), mm_Run X d y c k args h Q → mm_Met l D tys b0 Amb d y c k args h Q)
    {q : Nat} {n : Int32} {fs : List Value} {h : mm_S} (ho : fx_obj h q 7 = some fs) (hn : ¬ n < 0) (hn6 : n.toNatClampNeg ≤ 65536) (hc : 1 ≤ c) (hk : n.toNatClampNeg ≤ k) (hl : fs.length = 4) (hQ : ∀ v : Nat, v ∉ h.1 → h.2 v ≠ .inr (9, []) → Q (.inl none, (h.1 ++ [v], va_up (va_up h.2 v (.inl (4, n.toNatClampNeg, .inl (fun _ => 0)))) q (.inr (7, ((fs.set 0 (.ref v)).set 1 (.int 0))))))) : mm_Met l D tys b0 Amb (d + 1) 247 c k [.ref q, .int n] h Q := by
  refine mm_enter l D tys b0 Amb hty hA X IH (by decide) (Nat.le_of_ble_eq_true rfl) fun p e s m below meth cd Z => ?_
  have hamb := Z.2.2.2.2.2.2.1
  refine kk_adv (by decide) Z c_247 1 (F2 := (1, [.ref q], [(0, .ref q), (1, .int n)], h)) rfl ?_
  refine kk_obj (by decide) Z c_247 rfl (Nat.le_of_ble_eq_true rfl) ?_
  refine mm_gst (v := .int 1) (a := 0) (i := 18) Z (by decide +kernel) (by decide) (hC s s.heap hamb) ?_
  refine mm_walk (by decide) Z ?_
  show mm_Ex (mm_Run X d) 247 Q (7, [.int 1], [(0, .ref q), (1, .int n)], h) c k
  obtain ⟨hq, hcl⟩ := fx_obj_s ho
  refine go_zf hX c_247 rfl (by decide) (show ¬ (1 : Int32) = 0 by decide) ?_
  refine go_adv hX c_247 2 (F2 := (12, [.int n, .ref q], [(0, .ref q), (1, .int n)], h)) rfl ?_
  refine go_narr hX c_247 rfl rfl hn hn6 hc hk fun v hv h9 => ?_
  have hne : q ≠ v := fun z => hv (z ▸ hq)
  have ho1 : fx_obj (h.1 ++ [v], va_up h.2 v (.inl (4, n.toNatClampNeg, .inl (fun _ => 0)))) q 7 = some fs := by
    unfold fx_obj
    rw [if_pos (List.mem_append_left _ hq)]
    show (match va_up h.2 v _ q with | .inr (c, fs) => if c = 7 then some fs else none | _ => none) = _
    rw [va_up_ne _ _ hne, hcl]
    exact if_pos rfl
  refine go_pV hX (h2 := mm_put (h.1 ++ [v], va_up h.2 v (.inl (4, n.toNatClampNeg, .inl (fun _ => 0)))) q (.inr (7, fs.set 0 (.ref v)))) c_247 rfl ?_ ?_
  · unfold fx_pV
    rw [ho1]
    exact if_pos ⟨by omega, rfl, rfl⟩
  have ho2 : fx_obj (mm_put (h.1 ++ [v], va_up h.2 v (.inl (4, n.toNatClampNeg, .inl (fun _ => 0)))) q (.inr (7, fs.set 0 (.ref v)))) q 7 = some (fs.set 0 (.ref v)) := by
    unfold fx_obj
    rw [if_pos (show q ∈ (mm_put (h.1 ++ [v], va_up h.2 v (.inl (4, n.toNatClampNeg, .inl (fun _ => 0)))) q (.inr (7, fs.set 0 (.ref v)))).1 from List.mem_append_left _ hq)]
    rw [show (mm_put (h.1 ++ [v], va_up h.2 v (.inl (4, n.toNatClampNeg, .inl (fun _ => 0)))) q (.inr (7, fs.set 0 (.ref v)))).2 q = .inr (7, fs.set 0 (.ref v)) from va_up_self _ _ _]
    exact if_pos rfl
  refine go_adv hX c_247 2 (F2 := (19, [.int (ki 0), .ref q], [(0, .ref q), (1, .int n)], _)) rfl ?_
  refine go_pV hX (h2 := (h.1 ++ [v], va_up (va_up h.2 v (.inl (4, n.toNatClampNeg, .inl (fun _ => 0)))) q (.inr (7, ((fs.set 0 (.ref v)).set 1 (.int 0)))))) c_247 rfl ?_ ?_
  · unfold fx_pV
    rw [ho2]
    refine (if_pos ⟨by rw [List.length_set]; omega, rfl, rfl⟩).trans ?_
    show some (h.1 ++ [v], va_up (va_up (va_up h.2 v _) q _) q _) = _
    rw [bx_uu]
    rfl
  refine go_to hX 38 c_247 rfl rfl ?_
  exact go_ret hX c_247 rfl rfl (hQ v hv h9)
end EX

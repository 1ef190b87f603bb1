section EY
variable {p : Program} {l : Launch} {e : Env} {R : Room} {s : State} {m : MethodId} {args : Array Value} {below : List Frame} {meth : Method} {cd : Code} {H : Heap} {locs : List Loc}
variable {cc : ByteArray} {nL o y d c k : Nat} {ini : Bool} {D : va_G} {tys : List (ClassId × FieldType)} {b0 : Nat} {Amb : State → Heap → Prop} {X : mm_Cl} {S : Nat → Nat} {Q : mm_Re → Prop}
section KP
variable {K : List mm_E} {c2 k2 pc a b : Nat} {st rest : List Value} {ls : mm_L} {h : mm_S}
theorem kk_p (hy : y < 266) (Z : mm_Z p l R s m args meth cd (mm_m y).2.2.1 (mm_m y).2.2.2.1 (mm_m y).1 (mm_ini y) y d c k D tys b0 Amb X) (ec : mm_cd y = K) {ins : Instr} {P : Prop} {F2 : mm_F} (hf : mm_find K pc = some (ins, a, b)) (hs : mm_st ins a b pc st ls h = some (some P, F2)) (hp : P)
    (g : mm_KK p l e R s m args below meth cd c k Q (mm_m y).2.2.2.1 D tys b0 F2 c2 k2) : mm_KK p l e R s m args below meth cd c k Q (mm_m y).2.2.2.1 D tys b0 (pc, st, ls, h) c2 k2 := by
  refine kk_row hy Z ?_
  unfold mm_row1
  dsimp only
  rw [ec, hf]
  dsimp only
  rw [mm_do_st hs, hs]
  exact ⟨hp, g⟩
theorem kk_ct (hy : y < 266) (Z : mm_Z p l R s m args meth cd (mm_m y).2.2.1 (mm_m y).2.2.2.1 (mm_m y).1 (mm_ini y) y d c k D tys b0 Amb X) (ec : mm_cd y = K) {x z : Int32} {cn : Jvm.ClassFile.Cond} {off : Int} (tgt : Nat) (hf : mm_find K pc = some (.if_icmp cn off, a, b)) (ht : (pc : Int) + off = (tgt : Int)) (hc : mm_cnd cn x z)
    (g : mm_KK p l e R s m args below meth cd c k Q (mm_m y).2.2.2.1 D tys b0 (tgt, rest, ls, h) c2 k2) : mm_KK p l e R s m args below meth cd c k Q (mm_m y).2.2.2.1 D tys b0 (pc, .int z :: .int x :: rest, ls, h) c2 k2 := by
  have e : mm_to pc off = tgt := by
    unfold mm_to
    omega
  refine kk_p hy Z ec hf rfl (by omega) ?_
  rw [mm_cm_t hc, e]
  exact g
theorem kk_zt (hy : y < 266) (Z : mm_Z p l R s m args meth cd (mm_m y).2.2.1 (mm_m y).2.2.2.1 (mm_m y).1 (mm_ini y) y d c k D tys b0 Amb X) (ec : mm_cd y = K) {x : Int32} {cn : Jvm.ClassFile.Cond} {off : Int} (tgt : Nat) (hf : mm_find K pc = some (.ifCond cn off, a, b)) (ht : (pc : Int) + off = (tgt : Int)) (hc : mm_cnd cn x 0)
    (g : mm_KK p l e R s m args below meth cd c k Q (mm_m y).2.2.2.1 D tys b0 (tgt, rest, ls, h) c2 k2) : mm_KK p l e R s m args below meth cd c k Q (mm_m y).2.2.2.1 D tys b0 (pc, .int x :: rest, ls, h) c2 k2 := by
  have e : mm_to pc off = tgt := by
    unfold mm_to
    omega
  refine kk_p hy Z ec hf rfl (by omega) ?_
  rw [mm_cm_t hc, e]
  exact g
theorem kk_zf (hy : y < 266) (Z : mm_Z p l R s m args meth cd (mm_m y).2.2.1 (mm_m y).2.2.2.1 (mm_m y).1 (mm_ini y) y d c k D tys b0 Amb X) (ec : mm_cd y = K) {x : Int32} {cn : Jvm.ClassFile.Cond} {off : Int} (hf : mm_find K pc = some (.ifCond cn off, a, b)) (ht : 0 ≤ (pc : Int) + off) (hc : ¬ mm_cnd cn x 0)
    (g : mm_KK p l e R s m args below meth cd c k Q (mm_m y).2.2.2.1 D tys b0 (pc + 3, rest, ls, h) c2 k2) : mm_KK p l e R s m args below meth cd c k Q (mm_m y).2.2.2.1 D tys b0 (pc, .int x :: rest, ls, h) c2 k2 := by
  refine kk_p hy Z ec hf rfl ht ?_
  rw [mm_cm_f hc]
  exact g
/-- a place of a static array of bytes is read -/
theorem kk_tb (Z : mm_Z p l R s m args meth cd cc nL o ini y d c k D tys b0 Amb X) {t N : Nat} {f : Nat → Value} {i : Int32} {v : Value} (hT : va_T .byte t N f (mm_A b0) s s.heap) (hin : vp_in i N) (hv : f i.toNatClampNeg = v) (hd : decode cc pc = .ok (.baload, 1))
    (g : mm_KK p l e R s m args below meth cd c k Q nL D tys b0 (pc + 1, v :: rest, ls, h) c2 k2) : mm_KK p l e R s m args below meth cd c k Q nL D tys b0 (pc, .int i :: .ref t :: rest, ls, h) c2 k2 := by
  obtain ⟨CX, -, -, -, -, -, -, -, -⟩ := id Z
  obtain ⟨hx, hb, hml, hts, hnw, hown, hini, hK, hty⟩ := id CX
  intro hc hk2 la H locs hl hr hS
  exact va_tb hx hb hT hS hin hv hd (g hc hk2 la H locs hl hr hS)
end KP
def va_D1 (b0 : Nat) (Amb : State → Heap → Prop) : Prop := ∀ (u : State) (H : Heap), Amb u H → ∃ (t : Nat) (f : Nat → Value), va_Z "java/lang/Integer" "DigitOnes" "[B" (.ref t) (mm_A b0) u H ∧ va_T .byte t 100 f (mm_A b0) u H ∧ ∀ n, n < 10 → f n = .int (nI n + 48)
theorem c_256 : mm_cd 256 = k_J6_getChars_ba4f3 := rfl
theorem x_d : ∀ n, n < 10 → (kb (-100) < -(nI n) ∧ kb (-9) ≤ -(nI n) ∧ -(-(nI n)) = nI n) := by decide +kernel
/-- one digit; two digits are left -/
theorem x_256a (hty : tys.map (fun q => q.2) = mm_tyl) (hA : mm_AL l D tys b0 Amb) (hX : mm_mono X) (hC : va_D1 b0 Amb) (IH : ∀ (y c k : Nat) (args : List Value) (h : mm_S) (Q : mm_Re → Prop), mm_Run X d y c k args h Q → mm_Met l D tys b0 Amb d y c k args h Q)
    {q n : Nat} {j : Int32} {h h2 : mm_S} (hn : n < 10) (e1 : fx_sB h q (j - 1) (nI n + 48) = some h2) (hQ : Q (.inl (some (.int (j - 1))), h2)) : mm_Met l D tys b0 Amb (d + 1) 256 c k [.int (nI n), .int j, .ref q] h Q := by
  obtain ⟨d1, d2, d3⟩ := x_d n hn
  refine mm_enter l D tys b0 Amb hty hA X IH (by decide) (Nat.le_of_ble_eq_true rfl) fun p e s m below meth cd Z => ?_
  have hamb := Z.2.2.2.2.2.2.1
  obtain ⟨t, f, z1, z2, z3⟩ := hC s s.heap hamb
  refine kk_adv (by decide) Z c_256 3 (F2 := (4, [.int (nI n)], [(5, .int j), (0, .int (nI n)), (1, .int j), (2, .ref q)], h)) rfl ?_
  refine kk_zt (by decide) Z c_256 11 rfl rfl (nI_pos' (by omega)) ?_
  refine kk_adv (by decide) Z c_256 3 (F2 := (16, [.int (ki 0)], [(6, .int (ki 0)), (5, .int j), (0, .int (nI n)), (1, .int j), (2, .ref q)], h)) rfl ?_
  refine kk_zf (by decide) Z c_256 rfl (by decide) (show ¬ ki 0 ≠ 0 by decide) ?_
  refine kk_adv (by decide) Z c_256 3 (F2 := (22, [], [(0, .int (-(nI n))), (6, .int (ki 0)), (5, .int j), (1, .int j), (2, .ref q)], h)) rfl ?_
  refine kk_adv (by decide) Z c_256 2 (F2 := (25, [.int (kb (-100)), .int (-(nI n))], [(0, .int (-(nI n))), (6, .int (ki 0)), (5, .int j), (1, .int j), (2, .ref q)], h)) rfl ?_
  refine kk_ct (by decide) Z c_256 72 rfl rfl d1 ?_
  refine kk_adv (by decide) Z c_256 3 (F2 := (78, [.int (j + ki (-1)), .ref q], [(5, .int (j + ki (-1))), (0, .int (-(nI n))), (6, .int (ki 0)), (1, .int j), (2, .ref q)], h)) rfl ?_
  refine mm_gst (v := .ref t) (a := 2) (i := 83) Z (by decide +kernel) (by decide) z1 ?_
  refine kk_adv (by decide) Z c_256 2 (F2 := (83, [.int (-(-(nI n))), .ref t, .int (j + ki (-1)), .ref q], [(5, .int (j + ki (-1))), (0, .int (-(nI n))), (6, .int (ki 0)), (1, .int j), (2, .ref q)], h)) rfl ?_
  rw [d3]
  refine kk_tb (v := .int (nI n + 48)) Z z2 (fun z => z.elim (nI_pos (by omega)) (fun z => by rw [nI_clamp (show n < 2 ^ 31 by omega)] at z; omega)) (by rw [nI_clamp (show n < 2 ^ 31 by omega)]; exact z3 n hn) (by decide +kernel) ?_
  refine mm_walk (by decide) Z ?_
  show mm_Ex (mm_Run X d) 256 Q (84, [.int (nI n + 48), .int (j + ki (-1)), .ref q], [(5, .int (j + ki (-1))), (0, .int (-(nI n))), (6, .int (ki 0)), (1, .int j), (2, .ref q)], h) c k
  have ej : j + ki (-1) = j - 1 := by
    show j + (-1) = j - 1
    rw [Int32.sub_eq_add_neg]
  rw [ej]
  refine go_sB hX c_256 rfl e1 ?_
  refine go_adv hX c_256 2 (F2 := (88, [.int (kb (-9)), .int (-(nI n))], [(5, .int (j - 1)), (0, .int (-(nI n))), (6, .int (ki 0)), (1, .int j), (2, .ref q)], h2)) rfl ?_
  refine go_ct hX 104 c_256 rfl rfl d2 ?_
  refine go_adv hX c_256 1 (F2 := (106, [.int (ki 0)], [(5, .int (j - 1)), (0, .int (-(nI n))), (6, .int (ki 0)), (1, .int j), (2, .ref q)], h2)) rfl ?_
  refine go_zt hX 118 c_256 rfl rfl (show ki 0 = 0 by decide) ?_
  refine go_adv hX c_256 1 (F2 := (120, [.int (j - 1)], [(5, .int (j - 1)), (0, .int (-(nI n))), (6, .int (ki 0)), (1, .int j), (2, .ref q)], h2)) rfl ?_
  exact go_iret hX c_256 rfl rfl rfl hQ
end EY

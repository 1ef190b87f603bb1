/-! new things, and calls that make them -/
section GN
variable {X : mm_Cl} {d y c k pc a b : Nat} {Q : mm_Re → Prop} {K : List mm_E} {ls : mm_L} {h : mm_S} {st rest : List Value} {q i : Nat}
/-- what comes behind a call -/
def go_B (X : mm_Cl) (d y : Nat) (Q : mm_Re → Prop) (pc : Nat) (rest : List Value) (ls : mm_L) (c k : Nat) : mm_Re → Prop := fun r => match r with
  | (.inl v, h2) => mm_Ex (mm_Run X d) y Q (pc + 3, v.toList ++ rest, ls, h2) c k
  | (.inr E, h2) => Q (.inr E, h2)
theorem go_narr (hX : mm_mono X) {t : ArrayType} {ti : Nat} {f : Nat → vp_A} {n : Int32} (cd : mm_cd y = K) (hf : mm_find K pc = some (.newarray t, a, b)) (ht : mm_arn t = some (ti, f)) (hn : ¬ n < 0) (h6 : n.toNatClampNeg ≤ 65536) (hc : 1 ≤ c) (hk : n.toNatClampNeg ≤ k) (g : ∀ q : Nat, q ∉ h.1 → h.2 q ≠ .inr (9, []) → mm_Ex (mm_Run X d) y Q (pc + 2, .ref q :: rest, ls, (h.1 ++ [q], va_up h.2 q (.inl (ti, f n.toNatClampNeg)))) (c - 1) (k - n.toNatClampNeg)) : mm_Ex (mm_Run X d) y Q (pc, .int n :: rest, ls, h) c k := by
  refine mm_Ex_go (mm_Run_mono hX d) ?_
  unfold mm_row1
  dsimp only
  rw [cd, hf]
  show (match mm_arn t with
    | some (ti, f) => _
    | none => False)
  rw [ht]
  exact ⟨hn, h6, hc, hk, g⟩
theorem go_anew (hX : mm_mono X) {n : Int32} (cd : mm_cd y = K) (hf : mm_find K pc = some (.anewarray i, a, b)) (ha : a = 0 ∨ a = 2 ∨ a = 3) (hn : ¬ n < 0) (h6 : n.toNatClampNeg ≤ 65536) (hc : 1 ≤ c) (hk : n.toNatClampNeg ≤ k) (g : ∀ q : Nat, q ∉ h.1 → h.2 q ≠ .inr (9, []) → mm_Ex (mm_Run X d) y Q (pc + 3, .ref q :: rest, ls, (h.1 ++ [q], va_up h.2 q (.inl (mm_ati a, n.toNatClampNeg, .inr (.inr (.inr (.inr (fun _ => none)))))))) (c - 1) (k - n.toNatClampNeg)) : mm_Ex (mm_Run X d) y Q (pc, .int n :: rest, ls, h) c k := by
  refine mm_Ex_go (mm_Run_mono hX d) ?_
  unfold mm_row1
  dsimp only
  rw [cd, hf]
  exact ⟨ha, hn, h6, hc, hk, g⟩
theorem go_new (hX : mm_mono X) (cd : mm_cd y = K) (hf : mm_find K pc = some (.new i, a, 9)) (hc : 1 ≤ c) (hk : (mm_C a).2.2 ≤ k) (g : ∀ q : Nat, q ∉ h.1 → h.2 q ≠ .inr (9, []) → mm_Ex (mm_Run X d) y Q (pc + 3, .ref q :: st, ls, (h.1 ++ [q], va_up h.2 q (.inr (a, mm_dfl a)))) (c - 1) (k - (mm_C a).2.2)) : mm_Ex (mm_Run X d) y Q (pc, st, ls, h) c k := by
  refine mm_Ex_go (mm_Run_mono hX d) ?_
  unfold mm_row1
  dsimp only
  rw [cd, hf]
  show mm_do _ _ _ _ _ _ _ _ _ _ _ _ _
  unfold mm_do
  rw [if_pos rfl]
  exact ⟨hc, hk, g⟩
theorem go_obj (hX : mm_mono X) (cd : mm_cd y = K) (hf : mm_find K pc = some (.invokespecial i, a, 128)) (hw : mm_wd rest ≤ 8) (g : mm_Ex (mm_Run X d) y Q (pc + 3, rest, ls, h) c k) : mm_Ex (mm_Run X d) y Q (pc, .ref q :: rest, ls, h) c k := by
  refine mm_Ex_go (mm_Run_mono hX d) ?_
  unfold mm_row1
  dsimp only
  rw [cd, hf]
  show mm_do _ _ _ _ _ _ _ _ _ _ _ _ _
  unfold mm_do
  rw [if_pos rfl]
  exact ⟨hw, g⟩
theorem go_cSx (hX : mm_mono X) {As : List Value} (mc ms : Nat) (cd : mm_cd y = K) (hf : mm_find K pc = some (.invokestatic i, a, b)) (hb : b ≠ 258 ∧ b ≠ 274 ∧ b ≠ 245 ∧ (b / 16 = 2 ∨ b / 16 = 3)) (hn : b % 16 ≤ st.length) (hA : (st.take (b % 16)).reverse = As) (hr : st.drop (b % 16) = rest) (hw : mm_wd rest ≤ 8) (hc : mc ≤ c) (hk : ms ≤ k)
    (hrun : mm_Run X d a mc ms As h (go_B X d y Q pc rest ls (c - mc) (k - ms))) : mm_Ex (mm_Run X d) y Q (pc, st, ls, h) c k := by
  refine mm_Ex_go (mm_Run_mono hX d) ?_
  unfold mm_row1
  dsimp only
  rw [cd, hf]
  show mm_do _ _ _ _ _ _ _ _ _ _ _ _ _
  unfold mm_do
  rw [if_neg hb.1, if_neg hb.2.1, if_neg hb.2.2.1, hA, hr]
  exact ⟨hb.2.2.2, hn, mc, ms, hc, hk, hw, hrun⟩
theorem go_cVx (hX : mm_mono X) {As : List Value} {ci : Nat} (mc ms : Nat) (cd : mm_cd y = K) (hf : mm_find K pc = some (.invokevirtual i, a, b)) (hn : b % 16 ≤ st.length) (hA : (st.take (b % 16)).reverse = As) (hr : st.drop (b % 16) = .ref q :: rest) (ho : fx_is h q ci = some ()) (hk : ci < 8 ∧ (((b / 16 = 4 ∨ b / 16 = 5) ∧ (mm_C ci).1 = (mm_m a).2.1.cls) ∨ (b / 16 = 13 ∧ ci = 7))) (hw : mm_wd rest ≤ 8) (hc : mc ≤ c) (hk2 : ms ≤ k)
    (hrun : mm_Run X d a mc ms (.ref q :: As) h (go_B X d y Q pc rest ls (c - mc) (k - ms))) : mm_Ex (mm_Run X d) y Q (pc, st, ls, h) c k := by
  refine mm_Ex_go (mm_Run_mono hX d) ?_
  unfold mm_row1
  dsimp only
  rw [cd, hf]
  show mm_do _ _ _ _ _ _ _ _ _ _ _ _ _
  unfold mm_do
  rw [hA, hr]
  obtain ⟨fs, e1, -⟩ := mm_bind ho
  obtain ⟨hq, hcl⟩ := fx_obj_s e1
  refine ⟨hn, ?_⟩
  dsimp only
  rw [hcl]
  exact ⟨Or.inl ⟨hq, hk.1, hk.2⟩, mc, ms, hc, hk2, hw, hrun⟩
theorem go_cSUx (hX : mm_mono X) {As : List Value} {ci : Nat} (mc ms : Nat) (cd : mm_cd y = K) (hf : mm_find K pc = some (.invokespecial i, a, b)) (hb : b / 16 = 14) (hn : b % 16 ≤ st.length) (hA : (st.take (b % 16)).reverse = As) (hr : st.drop (b % 16) = .ref q :: rest) (ho : fx_is h q ci = some ()) (hk : ci < 8) (hw : mm_wd rest ≤ 8) (hc : mc ≤ c) (hk2 : ms ≤ k)
    (hrun : mm_Run X d a mc ms (.ref q :: As) h (go_B X d y Q pc rest ls (c - mc) (k - ms))) : mm_Ex (mm_Run X d) y Q (pc, st, ls, h) c k := by
  refine mm_Ex_go (mm_Run_mono hX d) ?_
  unfold mm_row1
  dsimp only
  rw [cd, hf]
  show mm_do _ _ _ _ _ _ _ _ _ _ _ _ _
  unfold mm_do
  have e8 : ¬ b = 128 := by omega
  rw [if_neg e8, if_pos hb, hA, hr]
  obtain ⟨fs, e1, -⟩ := mm_bind ho
  obtain ⟨hq, hcl⟩ := fx_obj_s e1
  refine ⟨hn, ?_⟩
  dsimp only
  rw [hcl]
  exact ⟨hq, hk, mc, ms, hc, hk2, hw, hrun⟩
/-- a constructor -/
theorem go_cIx (hX : mm_mono X) {As : List Value} (mc ms : Nat) (cd : mm_cd y = K) (hf : mm_find K pc = some (.invokespecial i, a, b)) (hb : b / 16 = 6 ∨ b / 16 = 7) (hn : b % 16 ≤ st.length) (hA : (st.take (b % 16)).reverse = As) (hr : st.drop (b % 16) = .ref q :: rest) (hw : mm_wd rest ≤ 8) (hc : mc ≤ c) (hk2 : ms ≤ k)
    (hrun : mm_Run X d a mc ms (.ref q :: As) h (go_B X d y Q pc rest ls (c - mc) (k - ms))) : mm_Ex (mm_Run X d) y Q (pc, st, ls, h) c k := by
  refine mm_Ex_go (mm_Run_mono hX d) ?_
  unfold mm_row1
  dsimp only
  rw [cd, hf]
  show mm_do _ _ _ _ _ _ _ _ _ _ _ _ _
  unfold mm_do
  have e8 : ¬ b = 128 := by omega
  have e14 : ¬ b / 16 = 14 := by omega
  rw [if_neg e8, if_neg e14, hA, hr]
  exact ⟨hb, hn, mc, ms, hc, hk2, hw, hrun⟩
end GN
/-! a text's bytes laid anew, larger -/
section GR
variable {X : mm_Cl} {S : Nat → Nat} {d c k : Nat} {Q : mm_Re → Prop} {h : mm_S}
theorem gr_copy (hX : mm_mono X) {q0 n0 n1 : Nat} {g : Nat → Int32} (hq : q0 ∈ h.1) (hc0 : h.2 q0 = .inl (4, n0, .inl g)) (hn : n0 < n1) (h1 : n1 ≤ 1000) (hfit : ∀ i, i < n0 → fits .byte (.int (g i)) = true) (hc : 1 ≤ c) (hk : n1 ≤ k) (hQ : ∀ q : Nat, q ∉ h.1 → h.2 q ≠ .inr (9, []) → Q (.inl (some (.ref q)), (h.1 ++ [q], va_up h.2 q (.inl (4, n1, .inl (va_cpy g (fun _ => 0) 0 0 n0)))))) : mm_Run X (d + 1) 260 c k [.ref q0, .int (nI n1)] h Q := by
  have hlen : fx_len h q0 = some (nI n0) := by
    unfold fx_len
    rw [if_pos hq, hc0]
    rfl
  have cn : (nI n1).toNatClampNeg = n1 := nI_clamp (by omega)
  refine mm_Run_in (by decide) (by decide) (Nat.le_of_ble_eq_true rfl) ?_
  show mm_Ex (mm_Run X d) 260 Q (0, [], [(0, .ref q0), (1, .int (nI n1))], h) c k
  refine go_adv hX c_260 2 (F2 := (2, [.ref q0, .int (nI n1)], [(0, .ref q0), (1, .int (nI n1))], h)) rfl ?_
  refine go_len hX c_260 rfl hlen ?_
  refine go_ct hX 14 c_260 rfl rfl (show nI n1 ≠ nI n0 from fun e => by have := (nI_eq (by omega) (by omega)).mp e; omega) ?_
  refine go_adv hX c_260 1 (F2 := (15, [.int (nI n1)], [(0, .ref q0), (1, .int (nI n1))], h)) rfl ?_
  refine go_narr hX c_260 rfl rfl (nI_pos (by omega)) (by rw [cn]; omega) hc (by rw [cn]; exact hk) (fun q hqn h9 => ?_)
  rw [cn]
  have hne : q0 ≠ q := fun e => hqn (e ▸ hq)
  generalize hH : ((h.1 ++ [q], va_up h.2 q (.inl (4, n1, .inl (fun _ => 0)))) : mm_S) = H
  have H1 : H.1 = h.1 ++ [q] := by rw [← hH]
  have Hq : H.2 q = .inl (4, n1, .inl (fun _ => 0)) := by rw [← hH]; exact va_up_self _ _ _
  have H0 : H.2 q0 = .inl (4, n0, .inl g) := by rw [← hH]; exact (va_up_ne _ _ hne).trans hc0
  have a0 : q0 ∈ H.1 := by rw [H1]; exact List.mem_append_left _ hq
  have aq : q ∈ H.1 := by rw [H1]; exact List.mem_append_right _ List.mem_cons_self
  have hlen2 : fx_len H q0 = some (nI n0) := by
    unfold fx_len
    rw [if_pos a0, H0]
    rfl
  have c0 : (nI n0).toNatClampNeg = n0 := nI_clamp (by omega)
  have cz : (ki 0).toNatClampNeg = 0 := by decide
  have hcp : fx_cp H q0 (ki 0) q (ki 0) (nI n0) = some (mm_put H q (.inl (4, n1, .inl (va_cpy g (fun _ => 0) 0 0 n0)))) := by
    unfold fx_cp fx_arI
    rw [if_pos a0, H0, if_pos aq, Hq]
    dsimp only
    rw [if_pos (show 4 ∈ [0, 4] by decide), Option.bind_some, if_pos (show 4 ∈ [0, 4] by decide), Option.bind_some]
    dsimp only
    rw [cz, c0, if_pos]
    refine ⟨rfl, ⟨by decide, by decide, nI_pos (by omega)⟩, by omega, by omega, fun i hi => ?_⟩
    rw [Nat.zero_add]
    exact hfit i hi
  refine go_adv hX c_260 6 (F2 := (23, [.ref q0, .int (ki 0), .ref q, .int (ki 0), .ref q0], [(2, .ref q), (0, .ref q0), (1, .int (nI n1))], H)) rfl ?_
  refine go_len hX c_260 rfl hlen2 ?_
  refine go_adv hX c_260 1 (F2 := (25, [.int (nI n1), .int (nI n0), .int (ki 0), .ref q, .int (ki 0), .ref q0], [(2, .ref q), (0, .ref q0), (1, .int (nI n1))], H)) rfl ?_
  refine go_min hX c_260 rfl (Nat.le_of_ble_eq_true rfl) ?_
  rw [if_neg (nI_nlt (by omega) (by omega))]
  refine go_cp hX c_260 rfl (Nat.le_of_ble_eq_true rfl) hcp ?_
  refine go_adv hX c_260 1 (F2 := (32, [.ref q], [(2, .ref q), (0, .ref q0), (1, .int (nI n1))], mm_put H q (.inl (4, n1, .inl (va_cpy g (fun _ => 0) 0 0 n0))))) rfl ?_
  refine go_aret hX c_260 rfl rfl (by first | exact Or.inl ⟨_, rfl⟩ | exact Or.inr ⟨_, rfl⟩) ?_
  have e : mm_put H q (.inl (4, n1, .inl (va_cpy g (fun _ => 0) 0 0 n0))) = (h.1 ++ [q], va_up h.2 q (.inl (4, n1, .inl (va_cpy g (fun _ => 0) 0 0 n0)))) := by
    rw [← hH]
    unfold mm_put
    refine Prod.ext rfl (funext fun x => ?_)
    simp only [va_up]
    split <;> rfl
  rw [e]
  exact hQ q hqn h9
theorem gr_num : ∀ cap : Nat, cap < 61 → (nI (cap + 1) <<< ((0 : Int32) &&& 31)) - nI cap = nI 1 ∧ nI cap + (ki 2 <<< ((0 : Int32) &&& 31)) = nI (cap + 2) ∧ (if nI 1 < nI (cap + 2) then nI (cap + 2) else nI 1) = nI (cap + 2) ∧ ¬ nI cap + nI (cap + 2) ≤ ki 0 ∧ ¬ nI 2147483639 < nI cap + nI (cap + 2) ∧ nI cap + nI (cap + 2) = nI (2 * cap + 2) ∧ nI (2 * cap + 2) ≠ nI 2147483647 ∧ nI (2 * cap + 2) >>> ((0 : Int32) &&& 31) = nI (2 * cap + 2) ∧ nI (2 * cap + 2) <<< ((0 : Int32) &&& 31) = nI (2 * cap + 2) ∧ ¬ nI (cap + 1) - (nI cap >>> ((0 : Int32) &&& 31)) ≤ 0 := by decide +kernel
/-- the world with the larger bytes -/
def gr_h (h : mm_S) (q0 q cap : Nat) (g : Nat → Int32) (f2 f3 : Int32) : mm_S := (h.1 ++ [q], va_up (va_up h.2 q (.inl (4, 2 * cap + 2, .inl (va_cpy g (fun _ => 0) 0 0 cap)))) q0 (.inr (7, [.ref q, .int 0, .int f2, .int f3])))
theorem gr_ens (hX : mm_mono X) {q0 q1 cap : Nat} {g : Nat → Int32} {f2 f3 : Int32} (hq0 : q0 ∈ h.1) (hc0 : h.2 q0 = .inr (7, [.ref q1, .int 0, .int f2, .int f3])) (hq1 : q1 ∈ h.1) (hc1 : h.2 q1 = .inl (4, cap, .inl g)) (hcap : cap < 61) (hfit : ∀ i, i < cap → fits .byte (.int (g i)) = true) (hc : 1 ≤ c) (hk : 2 * cap + 2 ≤ k) (hQ : ∀ q : Nat, q ∉ h.1 → Q (.inl none, gr_h h q0 q cap g f2 f3)) : mm_Run X (d + 3) 249 c k [.ref q0, .int (nI (cap + 1))] h Q := by
  obtain ⟨n1, n2, n3, n4, n5, n6, n7, n8, n9, n10⟩ := gr_num cap hcap
  have ho : fx_obj h q0 7 = some [.ref q1, .int 0, .int f2, .int f3] := by
    unfold fx_obj
    rw [if_pos hq0, hc0]
    rfl
  have eis : fx_is h q0 7 = some () := by unfold fx_is; rw [ho]; rfl
  have er : fx_gR h q0 7 0 = some q1 := by unfold fx_gR; rw [ho]; rfl
  have ec : fx_gI h q0 7 1 = some 0 := by unfold fx_gI; rw [ho]; rfl
  have el : fx_len h q1 = some (nI cap) := by unfold fx_len; rw [if_pos hq1, hc1]; rfl
  have enc : F_J5_newCapacity_0f7a4 h q0 (nI (cap + 1)) = some (nI (2 * cap + 2)) := by
    unfold F_J5_newCapacity_0f7a4 F_J8_newLength_cabcc
    rw [er, Option.bind_some, el, Option.bind_some, ec, Option.bind_some, Option.bind_some, n1, n2, n3, if_neg n4, if_neg n5, n6, Option.bind_some, if_pos n7, Option.bind_some, n8]
  refine mm_Run_in (by decide) (by decide) (Nat.le_of_ble_eq_true rfl) ?_
  show mm_Ex (mm_Run X (d + 2)) 249 Q (0, [], [(0, .ref q0), (1, .int (nI (cap + 1)))], h) c k
  refine go_adv hX c_249 1 (F2 := (1, [.ref q0], [(0, .ref q0), (1, .int (nI (cap + 1)))], h)) rfl ?_
  refine go_gR hX c_249 rfl er ?_
  refine go_len hX c_249 rfl el ?_
  refine go_adv hX c_249 1 (F2 := (6, [.ref q0, .int (nI cap)], [(0, .ref q0), (1, .int (nI (cap + 1)))], h)) rfl ?_
  refine go_gI hX c_249 rfl ec ?_
  refine go_adv hX c_249 5 (F2 := (14, [.int (nI (cap + 1) - (nI cap >>> ((0 : Int32) &&& 31)))], [(2, .int (nI cap >>> ((0 : Int32) &&& 31))), (0, .ref q0), (1, .int (nI (cap + 1)))], h)) rfl ?_
  refine go_zf hX c_249 rfl (by decide) n10 ?_
  refine go_adv hX c_249 2 (F2 := (19, [.ref q0, .ref q0], [(2, .int (nI cap >>> ((0 : Int32) &&& 31))), (0, .ref q0), (1, .int (nI (cap + 1)))], h)) rfl ?_
  refine go_gR hX c_249 rfl er ?_
  refine go_adv hX c_249 2 (F2 := (24, [.int (nI (cap + 1)), .ref q0, .ref q1, .ref q0], [(2, .int (nI cap >>> ((0 : Int32) &&& 31))), (0, .ref q0), (1, .int (nI (cap + 1)))], h)) rfl ?_
  refine go_cV hX (As := [.int (nI (cap + 1))]) (rv := some (.int (nI (2 * cap + 2)))) (h2 := h) (ci := 7) c_249 rfl (Nat.le_of_ble_eq_true rfl) rfl rfl eis (by decide) (Nat.le_of_ble_eq_true rfl) (fun Q2 hQ2 => r_J5_newCapacity_0f7a4 hX (d := d) enc hQ2) ?_
  refine go_adv hX c_249 1 (F2 := (28, [.ref q0, .int (nI (2 * cap + 2)), .ref q1, .ref q0], [(2, .int (nI cap >>> ((0 : Int32) &&& 31))), (0, .ref q0), (1, .int (nI (cap + 1)))], h)) rfl ?_
  refine go_gI hX c_249 rfl ec ?_
  refine go_adv hX c_249 1 (F2 := (32, [.int (nI (2 * cap + 2) <<< ((0 : Int32) &&& 31)), .ref q1, .ref q0], [(2, .int (nI cap >>> ((0 : Int32) &&& 31))), (0, .ref q0), (1, .int (nI (cap + 1)))], h)) rfl ?_
  rw [n9]
  refine go_cSx hX (As := [.ref q1, .int (nI (2 * cap + 2))]) (rest := [.ref q0]) 1 (2 * cap + 2) c_249 rfl (by decide) (Nat.le_of_ble_eq_true rfl) rfl rfl (Nat.le_of_ble_eq_true rfl) hc hk ?_
  refine gr_copy hX (d := d + 1) hq1 hc1 (by omega) (by omega) hfit (by omega) (by omega) (fun q hqn h9 => ?_)
  have hne : q0 ≠ q := fun e => hqn (e ▸ hq0)
  generalize hH : ((h.1 ++ [q], va_up h.2 q (.inl (4, 2 * cap + 2, .inl (va_cpy g (fun _ => 0) 0 0 cap)))) : mm_S) = H
  have H1 : H.1 = h.1 ++ [q] := by rw [← hH]
  have H0 : H.2 q0 = .inr (7, [.ref q1, .int 0, .int f2, .int f3]) := by rw [← hH]; exact (va_up_ne _ _ hne).trans hc0
  have ep : fx_pV H q0 7 0 (.ref q) = some (gr_h h q0 q cap g f2 f3) := by
    unfold fx_pV fx_obj
    rw [if_pos (by rw [H1]; exact List.mem_append_left _ hq0), H0]
    dsimp only
    rw [if_pos rfl, Option.bind_some, if_pos ⟨Nat.le_of_ble_eq_true rfl, rfl, rfl⟩, ← hH]
    rfl
  show mm_Ex (mm_Run X (d + 2)) 249 Q (35, [.ref q, .ref q0], _, H) _ _
  refine go_pV hX c_249 rfl ep ?_
  exact go_ret hX c_249 rfl rfl (hQ q hqn)
end GR

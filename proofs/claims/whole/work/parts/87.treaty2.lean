section KU
variable {X : mm_Cl} {S : Nat → Nat} {d : Nat}
/-- the numbers of a treaty when new -/
def wT_ (i k : Nat) : Int32 := if i = 2 then (if k = 1 then nI 1 else if k = 0 then nI 0 else if k < 8 then ki 2 else 0) else if i = 4 ∨ i = 5 then (if k = 0 then kb 30 else if k = 1 then nI (i - 4) else ki 0) else if 6 ≤ i then (if k = 5 then ki (-1) else ki 0) else ki 0
def gN_ (k : Nat) : Nat := k + 6
theorem aR_0 {F : Nat → Nat} : (fun _ => none) = aR_ 0 F := by
  funext x
  exact (if_neg (Nat.not_lt_zero x)).symm
theorem k_T (hX : mm_mono X) : CT_ X (d + 2) 22 15 100 [] 3 15 (fun l j => tc_ l gN_ wT_ j) := by
  intro N A C h Q W0 hg
  refine mm_Run_in (by decide) (by decide) (Nat.le_of_ble_eq_true rfl) ?_
  obtain ⟨o, hoA⟩ : ∃ o, A N = o := ⟨_, rfl⟩
  rw [hoA]
  show mm_Ex (mm_Run X (d + 1)) 22 Q (0, [], [(0, .ref o)], h) 15 100
  refine go_adv hX c_22 1 (F2 := (1, [.ref o], [(0, .ref o)], h)) rfl ?_
  refine go_obj hX c_22 rfl (Nat.le_of_ble_eq_true rfl) ?_
  refine go_adv hX c_22 2 (F2 := (6, [.int (ki 2), .ref o], [(0, .ref o)], h)) rfl ?_
  refine ct_anew (N := N + 1) hX 2 c_22 rfl (by decide) (by decide) (by decide) (by decide) (by omega) (by omega) W0 (by omega) fun A1 g1 E1 W1 => ?_
  have o1 : A1 N = o := (E1 N (by omega)).trans hoA
  refine ct_pu (N := N + 2) [.ref (A1 (N + 1)), .null, .null, .int 0, .int 0, .int 0, .int 0, .int 0, .int 0, .int 0] hX c_22 rfl W1 (by omega) o1 (Nat.le_of_ble_eq_true rfl) (⟨rfl, rfl⟩) rfl fun g2 W2 => ?_
  refine go_adv hX c_22 2 (F2 := (15, [.int (kb 8), .ref o], [(0, .ref o)], g2)) rfl ?_
  refine ct_narr (N := N + 2) hX 8 c_22 rfl rfl (by decide) (by decide) (by decide) (by omega) (by omega) W2 (by omega) fun A3 g3 E3 W3 => ?_
  have o3 : A3 N = o := (E3 N (by omega)).trans o1
  refine ct_pu (N := N + 3) [.ref (A1 (N + 1)), .ref (A3 (N + 2)), .null, .int 0, .int 0, .int 0, .int 0, .int 0, .int 0, .int 0] hX c_22 rfl W3 (by omega) o3 (Nat.le_of_ble_eq_true rfl) (⟨rfl, rfl⟩) rfl fun g4 W4 => ?_
  refine go_adv hX c_22 2 (F2 := (23, [.int (kb 10), .ref o], [(0, .ref o)], g4)) rfl ?_
  refine ct_anew (N := N + 3) hX 10 c_22 rfl (by decide) (by decide) (by decide) (by decide) (by omega) (by omega) W4 (by omega) fun A5 g5 E5 W5 => ?_
  have o5 : A5 N = o := (E5 N (by omega)).trans o3
  refine ct_pu (N := N + 4) [.ref (A1 (N + 1)), .ref (A3 (N + 2)), .ref (A5 (N + 3)), .int 0, .int 0, .int 0, .int 0, .int 0, .int 0, .int 0] hX c_22 rfl W5 (by omega) o5 (Nat.le_of_ble_eq_true rfl) (⟨rfl, rfl⟩) rfl fun g6 W6 => ?_
  refine go_adv hX c_22 2 (F2 := (31, [.int (ki 0), .ref o], [(0, .ref o)], g6)) rfl ?_
  refine ct_pu (N := N + 4) [.ref (A1 (N + 1)), .ref (A3 (N + 2)), .ref (A5 (N + 3)), .int (ki 0), .int 0, .int 0, .int 0, .int 0, .int 0, .int 0] hX c_22 rfl W6 (by omega) o5 (Nat.le_of_ble_eq_true rfl) (fit_int _) rfl fun g7 W7 => ?_
  refine go_adv hX c_22 2 (F2 := (36, [.int (ki 0), .ref o], [(0, .ref o)], g7)) rfl ?_
  refine ct_pu (N := N + 4) [.ref (A1 (N + 1)), .ref (A3 (N + 2)), .ref (A5 (N + 3)), .int (ki 0), .int (ki 0), .int 0, .int 0, .int 0, .int 0, .int 0] hX c_22 rfl W7 (by omega) o5 (Nat.le_of_ble_eq_true rfl) (fit_int _) rfl fun g8 W8 => ?_
  refine go_adv hX c_22 2 (F2 := (41, [.int (ki 0), .ref o], [(0, .ref o)], g8)) rfl ?_
  refine ct_pu (N := N + 4) [.ref (A1 (N + 1)), .ref (A3 (N + 2)), .ref (A5 (N + 3)), .int (ki 0), .int (ki 0), .int (ki 0), .int 0, .int 0, .int 0, .int 0] hX c_22 rfl W8 (by omega) o5 (Nat.le_of_ble_eq_true rfl) (fit_int _) rfl fun g9 W9 => ?_
  refine go_adv hX c_22 2 (F2 := (46, [.int (ki 0), .ref o], [(0, .ref o)], g9)) rfl ?_
  refine ct_pu (N := N + 4) [.ref (A1 (N + 1)), .ref (A3 (N + 2)), .ref (A5 (N + 3)), .int (ki 0), .int (ki 0), .int (ki 0), .int (ki 0), .int 0, .int 0, .int 0] hX c_22 rfl W9 (by omega) o5 (Nat.le_of_ble_eq_true rfl) (fit_int _) rfl fun g10 W10 => ?_
  refine go_adv hX c_22 2 (F2 := (51, [.int (ki 0), .ref o], [(0, .ref o)], g10)) rfl ?_
  refine ct_pu (N := N + 4) [.ref (A1 (N + 1)), .ref (A3 (N + 2)), .ref (A5 (N + 3)), .int (ki 0), .int (ki 0), .int (ki 0), .int (ki 0), .int (ki 0), .int 0, .int 0] hX c_22 rfl W10 (by omega) o5 (Nat.le_of_ble_eq_true rfl) (fit_int _) rfl fun g11 W11 => ?_
  refine go_adv hX c_22 2 (F2 := (56, [.int (ki 0), .ref o], [(0, .ref o)], g11)) rfl ?_
  refine ct_pu (N := N + 4) [.ref (A1 (N + 1)), .ref (A3 (N + 2)), .ref (A5 (N + 3)), .int (ki 0), .int (ki 0), .int (ki 0), .int (ki 0), .int (ki 0), .int (ki 0), .int 0] hX c_22 rfl W11 (by omega) o5 (Nat.le_of_ble_eq_true rfl) (fit_int _) rfl fun g12 W12 => ?_
  refine go_adv hX c_22 2 (F2 := (61, [.int (ki 0), .ref o], [(0, .ref o)], g12)) rfl ?_
  refine ct_pu (N := N + 4) [.ref (A1 (N + 1)), .ref (A3 (N + 2)), .ref (A5 (N + 3)), .int (ki 0), .int (ki 0), .int (ki 0), .int (ki 0), .int (ki 0), .int (ki 0), .int (ki 0)] hX c_22 rfl W12 (by omega) o5 (Nat.le_of_ble_eq_true rfl) (fit_int _) rfl fun g13 W13 => ?_
  have r1 : A1 (N + 1) = A5 (N + 1) := by rw [E5 _ (by omega), E3 _ (by omega)]
  rw [r1] at W13
  have r3 : A3 (N + 2) = A5 (N + 2) := by rw [E5 _ (by omega)]
  rw [r3] at W13
  refine go_adv hX c_22 2 (F2 := (66, [], [(1, .int (nI 0)), (0, .ref o)], g13)) rfl ?_
  refine k_T1 hX (p := N + 2) (M := N + 4) (by omega) (by omega) (by omega) o5 rfl 8 0 rfl _ g13 (fun _ => 0) W13 (by rw [va_up_ne _ _ (show N + 2 ≠ N + 3 by omega), va_up_self]) fun hA fA a1 a2 WA => ?_
  refine go_adv hX c_22 2 (F2 := (87, [], [(1, .int (nI 0)), (0, .ref o)], hA)) rfl ?_
  refine k_T2 (M := N + 4) (pa := N + 1) (pn := N + 2) (r := 0) (R := fun _ => none) hX (by decide) (by omega) (by omega) (by omega) (by omega) (by omega) (by omega) WA o5 rfl rfl rfl rfl (by rw [va_up_ne _ _ (show N + 1 ≠ N + 2 by omega), va_up_ne _ _ (show N + 1 ≠ N + 3 by omega), va_up_ne _ _ (show N + 1 ≠ N + 2 by omega), va_up_self]; rfl) (va_up_self _ _ _) (by omega) (by omega) fun A10 C10 h10 E10 D10 P10 Q10 G10 W10 => ?_
  refine k_T2 (M := N + 5) (pa := N + 1) (pn := N + 2) (r := 1) hX (by decide) (by omega) (by omega) (by omega) (by omega) (by omega) (by omega) W10 ((E10 N (by omega)).trans o5) (E10 _ (by omega)) (E10 _ (by omega)) rfl rfl P10 Q10 (by omega) (by omega) fun A11 C11 h11 E11 D11 P11 Q11 G11 W11 => ?_
  refine go_adv hX c_22 2 (F2 := (89, [.int (ki 2), .int (nI 2)], [(1, .int (nI 2)), (0, .ref o)], h11)) rfl ?_
  refine go_ct hX 119 c_22 rfl rfl (show ki 2 ≤ nI 2 by decide) ?_
  refine go_adv hX c_22 2 (F2 := (121, [], [(1, .int (nI 0)), (0, .ref o)], h11)) rfl ?_
  have c3 : C11 (N + 3) = .inl (6, 10, .inr (.inr (.inr (.inr (aR_ 0 (fun j => A11 (N + 6 + j))))))) := by
    rw [D11 _ (by omega) (by omega) (by omega), D10 _ (by omega) (by omega) (by omega), va_up_ne _ _ (show N + 3 ≠ N + 2 by omega), va_up_self, ← aR_0]
    rfl
  have eA : ∀ j, j < N + 4 → A11 j = A5 j := fun j hj => by rw [E11 j (by omega), E10 j hj]
  refine k_T3 (b := N + 6) (pa := N + 3) hX (by omega) (by omega) (by omega) rfl 10 0 rfl A11 C11 h11 _ _ (by omega) (by omega) W11 ((eA N (by omega)).trans o5) (eA _ (by omega)) c3 fun A12 C12 h12 E12 D12 P12 V12 W12 => ?_
  refine go_ret hX (d := d + 1) c_22 rfl rfl ?_
  have eB : ∀ j, j < N + 4 → A12 j = A5 j := fun j hj => by rw [E12 j (by omega), eA j hj]
  refine hg A12 _ h12 (fun j hj => by rw [eB j (by omega), E5 j (by omega), E3 j (by omega), E1 j (by omega)]) (fun j hj => ?_) (fun j hj => ?_) W12
  · rw [va_up_ne _ _ (show j ≠ N by omega), D12 j (by omega) (by omega), D11 j (by omega) (by omega) (by omega), D10 j (by omega) (by omega) (by omega), va_up_ne _ _ (show j ≠ N + 2 by omega), va_up_ne _ _ (show j ≠ N + 3 by omega), va_up_ne _ _ (show j ≠ N + 2 by omega), va_up_ne _ _ (show j ≠ N + 1 by omega)]
  · match j, hj with
    | 0, _ =>
      show va_up _ _ _ N = _
      rw [va_up_self, ← eB (N + 1) (by omega), ← eB (N + 2) (by omega), ← eB (N + 3) (by omega)]
      rfl
    | 1, _ =>
      show va_up _ _ _ (N + 1) = _
      rw [va_up_ne _ _ (by omega), D12 _ (by omega) (by omega), P11, aR_0 (F := fun k => A12 (N + (k + 4)))]
      rw [aR_up (n := 0) (r := 0) (show A12 (N + (0 + 4)) = A10 (N + 4) by rw [E12 _ (by omega), E11 _ (by omega)]), aR_up (n := 0) (r := 0 + 1) (show A12 (N + (0 + 1 + 4)) = A11 (N + 5) by rw [E12 _ (by omega)])]
      rfl
    | 2, _ =>
      show va_up _ _ _ (N + 2) = _
      rw [va_up_ne _ _ (by omega), D12 _ (by omega) (by omega), Q11]
      have : upd (upd fA 0 (nI 0)) 1 (nI 1) = wT_ 2 := by
        funext x
        show (if x = 1 then nI 1 else if x = 0 then nI 0 else fA x) = if x = 1 then nI 1 else if x = 0 then nI 0 else if x < 8 then ki 2 else 0
        by_cases e1 : x = 1
        · rw [if_pos e1, if_pos e1]
        · rw [if_neg e1, if_neg e1]
          by_cases e2 : x = 0
          · rw [if_pos e2, if_pos e2]
          · rw [if_neg e2, if_neg e2]
            by_cases e3 : x < 8
            · rw [if_pos e3, a1 x e3 (Nat.zero_le _)]
            · rw [if_neg e3, a2 x (by omega)]
      rw [this]
      rfl
    | 3, _ =>
      show va_up _ _ _ (N + 3) = _
      rw [va_up_ne _ _ (by omega), P12]
      rw [show aR_ 10 (fun j => A12 (N + 6 + j)) = aR_ 10 (fun k => A12 (N + (k + 6))) from aR_c (fun j _ => by rw [show N + 6 + j = N + (j + 6) by omega])]
      rfl
    | 4, _ =>
      show va_up _ _ _ (N + 4) = _
      rw [va_up_ne _ _ (by omega), D12 _ (by omega) (by omega), D11 _ (by omega) (by omega) (by omega), G10]
      rfl
    | 5, _ =>
      show va_up _ _ _ (N + 5) = _
      rw [va_up_ne _ _ (by omega), D12 _ (by omega) (by omega), G11]
      rfl
    | t + 6, ht =>
      have ew : wT_ (t + 6) = fun k => if k = 5 then ki (-1) else ki 0 := by
        funext x
        unfold wT_
        rw [if_neg (by omega), if_neg (by omega), if_pos (by omega)]
      rw [show N + (t + 6) = N + 6 + t by omega, va_up_ne _ _ (by omega), V12 t (Nat.zero_le _) (by omega)]
      show _ = (Sum.inr (2, fS_ (wT_ (t + 6))) : mm_Ce)
      rw [ew]
      rfl
end KU

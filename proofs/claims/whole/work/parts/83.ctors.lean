/-! the constructors that go straight -/
section KS
variable {X : mm_Cl} {S : Nat → Nat} {d : Nat}
theorem c_0 : mm_cd 0 = k_X0_init := rfl
theorem c_11 : mm_cd 11 = k_X2_init := rfl
theorem c_58 : mm_cd 58 = k_X4_init := rfl
theorem c_2 : mm_cd 2 = k_X1_init := rfl
theorem c_241 : mm_cd 241 = k_J4_init_da8c8 := rfl
theorem c_22 : mm_cd 22 = k_X3_init := rfl
theorem c_67 : mm_cd 67 = k_X5_init := rfl
theorem c_123 : mm_cd 123 = k_X6_init := rfl
theorem k_G (hX : mm_mono X) {x : Int32} : CT_ X (d + 1) 0 0 0 [.int x] 0 0 (fun _ _ => .inr (0, [.int (kb 30), .int x, .int (ki 0), .int (ki 0), .int (ki 0)])) := by
  intro N A C h Q W0 hg
  refine mm_Run_in (by decide) (by decide) (Nat.le_of_ble_eq_true rfl) ?_
  obtain ⟨o, hoA⟩ : ∃ o, A N = o := ⟨_, rfl⟩
  rw [hoA]
  show mm_Ex (mm_Run X d) 0 Q (0, [], [(0, .ref o), (1, .int x)], h) 0 0
  refine go_adv hX c_0 1 (F2 := (1, [.ref o], [(0, .ref o), (1, .int x)], h)) rfl ?_
  refine go_obj hX c_0 rfl (Nat.le_of_ble_eq_true rfl) ?_
  refine go_adv hX c_0 2 (F2 := (7, [.int (kb 30), .ref o], [(0, .ref o), (1, .int x)], h)) rfl ?_
  refine ct_put (N := N + 1) hX c_0 rfl W0 (by omega) hoA (Nat.le_of_ble_eq_true rfl) (fit_int _) fun g1 W1 => ?_
  refine go_adv hX c_0 2 (F2 := (12, [.int (ki 0), .ref o], [(0, .ref o), (1, .int x)], g1)) rfl ?_
  refine ct_put (N := N + 1) hX c_0 rfl W1 (by omega) hoA (Nat.le_of_ble_eq_true rfl) (fit_int _) fun g2 W2 => ?_
  refine go_adv hX c_0 2 (F2 := (17, [.int (ki 0), .ref o], [(0, .ref o), (1, .int x)], g2)) rfl ?_
  refine ct_put (N := N + 1) hX c_0 rfl W2 (by omega) hoA (Nat.le_of_ble_eq_true rfl) (fit_int _) fun g3 W3 => ?_
  refine go_adv hX c_0 2 (F2 := (22, [.int (ki 0), .ref o], [(0, .ref o), (1, .int x)], g3)) rfl ?_
  refine ct_put (N := N + 1) hX c_0 rfl W3 (by omega) hoA (Nat.le_of_ble_eq_true rfl) (fit_int _) fun g4 W4 => ?_
  refine go_adv hX c_0 2 (F2 := (27, [.int x, .ref o], [(0, .ref o), (1, .int x)], g4)) rfl ?_
  refine ct_put (N := N + 1) hX c_0 rfl W4 (by omega) hoA (Nat.le_of_ble_eq_true rfl) (fit_int _) fun g5 W5 => ?_
  refine go_ret hX c_0 rfl rfl ?_
  refine hg A _ g5 (fun _ _ => rfl) (fun j hj => ?_) (fun j hj => ?_) W5
  · rw [va_up_ne _ _ (show j ≠ N by omega)]
  · obtain rfl : j = 0 := by omega
    exact va_up_self C N _
theorem k_St (hX : mm_mono X) : CT_ X (d + 1) 11 0 0 [] 2 0 (fun _ _ => .inr (2, [.int (ki 0), .int (ki 0), .int (ki 0), .int (ki 0), .int (ki 0), .int (ki (-1)), .int (ki 0)])) := by
  intro N A C h Q W0 hg
  refine mm_Run_in (by decide) (by decide) (Nat.le_of_ble_eq_true rfl) ?_
  obtain ⟨o, hoA⟩ : ∃ o, A N = o := ⟨_, rfl⟩
  rw [hoA]
  show mm_Ex (mm_Run X d) 11 Q (0, [], [(0, .ref o)], h) 0 0
  refine go_adv hX c_11 1 (F2 := (1, [.ref o], [(0, .ref o)], h)) rfl ?_
  refine go_obj hX c_11 rfl (Nat.le_of_ble_eq_true rfl) ?_
  refine go_adv hX c_11 2 (F2 := (6, [.int (ki 0), .ref o], [(0, .ref o)], h)) rfl ?_
  refine ct_put (N := N + 1) hX c_11 rfl W0 (by omega) hoA (Nat.le_of_ble_eq_true rfl) (fit_int _) fun g1 W1 => ?_
  refine go_adv hX c_11 2 (F2 := (11, [.int (ki 0), .ref o], [(0, .ref o)], g1)) rfl ?_
  refine ct_put (N := N + 1) hX c_11 rfl W1 (by omega) hoA (Nat.le_of_ble_eq_true rfl) (fit_int _) fun g2 W2 => ?_
  refine go_adv hX c_11 2 (F2 := (16, [.int (ki 0), .ref o], [(0, .ref o)], g2)) rfl ?_
  refine ct_put (N := N + 1) hX c_11 rfl W2 (by omega) hoA (Nat.le_of_ble_eq_true rfl) (fit_int _) fun g3 W3 => ?_
  refine go_adv hX c_11 2 (F2 := (21, [.int (ki 0), .ref o], [(0, .ref o)], g3)) rfl ?_
  refine ct_put (N := N + 1) hX c_11 rfl W3 (by omega) hoA (Nat.le_of_ble_eq_true rfl) (fit_int _) fun g4 W4 => ?_
  refine go_adv hX c_11 2 (F2 := (26, [.int (ki 0), .ref o], [(0, .ref o)], g4)) rfl ?_
  refine ct_put (N := N + 1) hX c_11 rfl W4 (by omega) hoA (Nat.le_of_ble_eq_true rfl) (fit_int _) fun g5 W5 => ?_
  refine go_adv hX c_11 2 (F2 := (31, [.int (ki (-1)), .ref o], [(0, .ref o)], g5)) rfl ?_
  refine ct_put (N := N + 1) hX c_11 rfl W5 (by omega) hoA (Nat.le_of_ble_eq_true rfl) (fit_int _) fun g6 W6 => ?_
  refine go_adv hX c_11 2 (F2 := (36, [.int (ki 0), .ref o], [(0, .ref o)], g6)) rfl ?_
  refine ct_put (N := N + 1) hX c_11 rfl W6 (by omega) hoA (Nat.le_of_ble_eq_true rfl) (fit_int _) fun g7 W7 => ?_
  refine go_ret hX c_11 rfl rfl ?_
  refine hg A _ g7 (fun _ _ => rfl) (fun j hj => ?_) (fun j hj => ?_) W7
  · rw [va_up_ne _ _ (show j ≠ N by omega)]
  · obtain rfl : j = 0 := by omega
    exact va_up_self C N _
theorem k_Wy (hX : mm_mono X) : CT_ X (d + 1) 58 12 96 [] 4 12 (fun l j => yc_ l (fun _ _ => 0) j) := by
  intro N A C h Q W0 hg
  refine mm_Run_in (by decide) (by decide) (Nat.le_of_ble_eq_true rfl) ?_
  obtain ⟨o, hoA⟩ : ∃ o, A N = o := ⟨_, rfl⟩
  rw [hoA]
  show mm_Ex (mm_Run X d) 58 Q (0, [], [(0, .ref o)], h) 12 96
  refine go_adv hX c_58 1 (F2 := (1, [.ref o], [(0, .ref o)], h)) rfl ?_
  refine go_obj hX c_58 rfl (Nat.le_of_ble_eq_true rfl) ?_
  refine go_adv hX c_58 2 (F2 := (7, [.int (kb 8), .ref o], [(0, .ref o)], h)) rfl ?_
  refine ct_narr (N := N + 1) hX 8 c_58 rfl rfl (by decide) (by decide) (by decide) (by omega) (by omega) W0 (by omega) fun A1 g1 E1 W1 => ?_
  have o1 : A1 N = o := (E1 N (by omega)).trans hoA
  refine ct_put (N := N + 2) hX c_58 rfl W1 (by omega) o1 (Nat.le_of_ble_eq_true rfl) (⟨rfl, rfl⟩) fun g2 W2 => ?_
  refine go_adv hX c_58 2 (F2 := (15, [.int (kb 8), .ref o], [(0, .ref o)], g2)) rfl ?_
  refine ct_narr (N := N + 2) hX 8 c_58 rfl rfl (by decide) (by decide) (by decide) (by omega) (by omega) W2 (by omega) fun A3 g3 E3 W3 => ?_
  have o3 : A3 N = o := (E3 N (by omega)).trans o1
  refine ct_put (N := N + 3) hX c_58 rfl W3 (by omega) o3 (Nat.le_of_ble_eq_true rfl) (⟨rfl, rfl⟩) fun g4 W4 => ?_
  refine go_adv hX c_58 2 (F2 := (23, [.int (kb 8), .ref o], [(0, .ref o)], g4)) rfl ?_
  refine ct_narr (N := N + 3) hX 8 c_58 rfl rfl (by decide) (by decide) (by decide) (by omega) (by omega) W4 (by omega) fun A5 g5 E5 W5 => ?_
  have o5 : A5 N = o := (E5 N (by omega)).trans o3
  refine ct_put (N := N + 4) hX c_58 rfl W5 (by omega) o5 (Nat.le_of_ble_eq_true rfl) (⟨rfl, rfl⟩) fun g6 W6 => ?_
  refine go_adv hX c_58 3 (F2 := (33, [.int (kb 8), .int (kb 8), .ref o], [(0, .ref o)], g6)) rfl ?_
  refine ct_mul (N := N + 4) hX 8 8 c_58 rfl (by decide) (by decide) (by decide) (by decide) (by decide) (by decide) (by omega) (by omega) W6 (by omega) fun A7 C7 g7 E7 D7 U7 V7 W7 => ?_
  have o7 : A7 N = o := (E7 N (by omega)).trans o5
  refine ct_put (N := N + 13) hX c_58 rfl W7 (by omega) o7 (Nat.le_of_ble_eq_true rfl) (⟨rfl, rfl⟩) fun g8 W8 => ?_
  refine go_ret hX c_58 rfl rfl ?_
  have r1 : A1 (N + 1) = A7 (N + 1) := by rw [E7 _ (by omega), E5 _ (by omega), E3 _ (by omega)]
  rw [r1] at W8
  have r3 : A3 (N + 2) = A7 (N + 2) := by rw [E7 _ (by omega), E5 _ (by omega)]
  rw [r3] at W8
  have r5 : A5 (N + 3) = A7 (N + 3) := by rw [E7 _ (by omega)]
  rw [r5] at W8
  refine hg A7 _ g8 (fun j hj => by rw [E7 j (by omega), E5 j (by omega), E3 j (by omega), E1 j (by omega)]) (fun j hj => ?_) (fun j hj => ?_) W8
  · rw [va_up_ne _ _ (show j ≠ N by omega), D7 j (by omega), va_up_ne _ _ (show j ≠ N + 3 by omega), va_up_ne _ _ (show j ≠ N + 2 by omega), va_up_ne _ _ (show j ≠ N + 1 by omega)]
  · match j, hj with
    | 0, _ =>
      show va_up _ _ _ (N) = _
      rw [va_up_self]
      rfl
    | 1, _ =>
      show va_up _ _ _ (N + 1) = _
      rw [va_up_ne _ _ (show N + 1 ≠ N by omega), D7 (N + 1) (by omega), va_up_ne _ _ (show N + 1 ≠ N + 3 by omega), va_up_ne _ _ (show N + 1 ≠ N + 2 by omega), va_up_self]
      rfl
    | 2, _ =>
      show va_up _ _ _ (N + 2) = _
      rw [va_up_ne _ _ (show N + 2 ≠ N by omega), D7 (N + 2) (by omega), va_up_ne _ _ (show N + 2 ≠ N + 3 by omega), va_up_self]
      rfl
    | 3, _ =>
      show va_up _ _ _ (N + 3) = _
      rw [va_up_ne _ _ (show N + 3 ≠ N by omega), D7 (N + 3) (by omega), va_up_self]
      rfl
    | 4, _ =>
      show va_up _ _ _ (N + 4) = _
      rw [va_up_ne _ _ (show N + 4 ≠ N by omega), U7]
      have e9 : aR_ 8 (fun t => A7 (N + 4 + 1 + t)) = aR_ 8 (fun k => A7 (N + (k + 5))) := aR_c (fun k _ => by rw [show N + 4 + 1 + k = N + (k + 5) by omega])
      rw [e9]
      rfl
    | j + 5, hj =>
      rw [show N + (j + 5) = N + 4 + 1 + j by omega, va_up_ne _ _ (by omega), V7 j (by omega)]
      rfl
/-- a text buffer's cells when new -/
def zS_ (l : Nat → Nat) (j : Nat) : mm_Ce := match j with
  | 0 => .inr (7, [.ref (l 1), .int 0, .int 0, .int 0])
  | _ => .inl (4, 16, .inl (fun _ => 0))
theorem k_Sb (hX : mm_mono X) (hS : mm_XS S X) : CT_ X (d + 2) 241 1 16 [] 7 1 zS_ := by
  intro N A C h Q W0 hg
  refine mm_Run_in (by decide) (by decide) (Nat.le_of_ble_eq_true rfl) ?_
  show mm_Ex (mm_Run X (d + 1)) 241 Q (0, [], [(0, .ref (A N))], h) 1 16
  refine go_adv hX c_241 2 (F2 := (3, [.int (kb 16), .ref (A N)], [(0, .ref (A N))], h)) rfl ?_
  refine go_cIx hX (As := [.int (kb 16)]) (rest := []) 1 16 c_241 rfl (by decide) (Nat.le_of_ble_eq_true rfl) rfl rfl (Nat.le_of_ble_eq_true rfl) (Nat.le_refl 1) (Nat.le_refl 16) ?_
  refine mm_Run_x hS (by decide) (by decide) (Nat.le_of_ble_eq_true rfl) ?_
  unfold mm_Xc
  refine Or.inr (Or.inr (Or.inr (Or.inr (Or.inr (Or.inr ⟨rfl, A N, kb 16, mm_dfl 7, rfl, W_obj W0 (by omega) (va_up_self _ _ _), rfl, by decide, by decide, by decide, by decide, fun v hv _ => ?_⟩)))))
  have h1 := W_push W0 hv (v := .inl (4, 16, .inl (fun _ => 0)))
  have h2 := W_put1 h1 (i := N) (by omega) (c := .inr (7, [.ref v, .int 0, .int 0, .int 0]))
  rw [show va_up A (N + 1) v N = A N from va_up_ne _ _ (by omega)] at h2
  refine go_ret hX (d := d + 1) c_241 rfl rfl ?_
  refine hg (va_up A (N + 1) v) _ _ (fun j hj => va_up_ne _ _ (by omega)) (fun j hj => ?_) (fun j hj => ?_) h2
  · rw [va_up_ne _ _ (by omega), va_up_ne _ _ (by omega), va_up_ne _ _ (by omega)]
  · match j, hj with
    | 0, _ =>
      refine (va_up_self _ _ _).trans ?_
      show _ = (Sum.inr (7, [Value.ref (va_up A (N + 1) v (N + 1)), .int 0, .int 0, .int 0]) : mm_Ce)
      rw [va_up_self]
    | 1, _ =>
      show va_up _ _ _ (N + 1) = _
      rw [va_up_ne _ _ (by omega), va_up_self]
      rfl
/-- the cells of orders when new, in the order of their making -/
def zZ_ (l : Nat → Nat) (j : Nat) : mm_Ce := match j with
  | 0 => .inr (1, [.ref (l 1), .ref (l 3), .ref (l 4), .int (ki 0)])
  | 1 => .inr (7, [.ref (l 2), .int 0, .int 0, .int 0])
  | 2 => .inl (4, 16, .inl (fun _ => 0))
  | 3 => .inl (0, 15, .inl (fun _ => 0))
  | 4 => .inl (8, 15, .inr (.inr (.inr (.inr (aR_ 15 (fun k => l (k + 5)))))))
  | _ => .inl (0, 3, .inl (fun _ => 0))
theorem k_Z (hX : mm_mono X) (hS : mm_XS S X) : CT_ X (d + 3) 2 22 200 [] 1 19 (zZ_) := by
  intro N A C h Q W0 hg
  refine mm_Run_in (by decide) (by decide) (Nat.le_of_ble_eq_true rfl) ?_
  obtain ⟨o, hoA⟩ : ∃ o, A N = o := ⟨_, rfl⟩
  rw [hoA]
  show mm_Ex (mm_Run X (d + 2)) 2 Q (0, [], [(0, .ref o)], h) 22 200
  refine go_adv hX c_2 1 (F2 := (1, [.ref o], [(0, .ref o)], h)) rfl ?_
  refine go_obj hX c_2 rfl (Nat.le_of_ble_eq_true rfl) ?_
  refine go_adv hX c_2 1 (F2 := (5, [.ref o], [(0, .ref o)], h)) rfl ?_
  refine ct_new (N := N + 1) hX 4 c_2 rfl rfl (by omega) (by omega) W0 (by omega) fun A1 g1 E1 W1 => ?_
  have o1 : A1 N = o := (E1 N (by omega)).trans hoA
  refine go_p hX c_2 rfl rfl rfl ?_
  refine ct_call (N := N + 1) (As := []) (mc := 1) (ms := 16) (n := 1) hX (k_Sb hX hS (d := d)) c_2 rfl (by decide) (Nat.le_of_ble_eq_true rfl) rfl rfl (Nat.le_of_ble_eq_true rfl) (by omega) (by omega) W1 (by omega) fun A2 C2 g2 E2 D2 V2 W2 => ?_
  have o2 : A2 N = o := (E2 N (by omega)).trans o1
  rw [show A1 (N + 1) = A2 (N + 1) from (E2 _ (by omega)).symm]
  refine ct_put (N := N + 3) hX c_2 rfl W2 (by omega) o2 (Nat.le_of_ble_eq_true rfl) (⟨rfl, rfl⟩) fun g3 W3 => ?_
  refine go_adv hX c_2 2 (F2 := (18, [.int (kb 15), .ref o], [(0, .ref o)], g3)) rfl ?_
  refine ct_narr (N := N + 3) hX 15 c_2 rfl rfl (by decide) (by decide) (by decide) (by omega) (by omega) W3 (by omega) fun A4 g4 E4 W4 => ?_
  have o4 : A4 N = o := (E4 N (by omega)).trans o2
  refine ct_put (N := N + 4) hX c_2 rfl W4 (by omega) o4 (Nat.le_of_ble_eq_true rfl) (⟨rfl, rfl⟩) fun g5 W5 => ?_
  refine go_adv hX c_2 3 (F2 := (27, [.int (ki 3), .int (kb 15), .ref o], [(0, .ref o)], g5)) rfl ?_
  refine ct_mul (N := N + 4) hX 15 3 c_2 rfl (by decide) (by decide) (by decide) (by decide) (by decide) (by decide) (by omega) (by omega) W5 (by omega) fun A6 C6 g6 E6 D6 U6 V6 W6 => ?_
  have o6 : A6 N = o := (E6 N (by omega)).trans o4
  refine ct_put (N := N + 20) hX c_2 rfl W6 (by omega) o6 (Nat.le_of_ble_eq_true rfl) (⟨rfl, rfl⟩) fun g7 W7 => ?_
  refine go_adv hX c_2 2 (F2 := (36, [.int (ki 0), .ref o], [(0, .ref o)], g7)) rfl ?_
  refine ct_put (N := N + 20) hX c_2 rfl W7 (by omega) o6 (Nat.le_of_ble_eq_true rfl) (fit_int _) fun g8 W8 => ?_
  refine go_ret hX c_2 rfl rfl ?_
  have r2 : A2 (N + 1) = A6 (N + 1) := by rw [E6 _ (by omega), E4 _ (by omega)]
  rw [r2] at W8
  have r4 : A4 (N + 3) = A6 (N + 3) := by rw [E6 _ (by omega)]
  rw [r4] at W8
  refine hg A6 _ g8 (fun j hj => by rw [E6 j (by omega), E4 j (by omega), E2 j (by omega), E1 j (by omega)]) (fun j hj => ?_) (fun j hj => ?_) W8
  · rw [va_up_ne _ _ (show j ≠ N by omega), D6 j (by omega), va_up_ne _ _ (show j ≠ N + 3 by omega), D2 j (by omega)]
  · match j, hj with
    | 0, _ =>
      show va_up _ _ _ (N) = _
      rw [va_up_self]
      rfl
    | 1, _ =>
      show va_up _ _ _ (N + 1) = _
      rw [va_up_ne _ _ (show N + 1 ≠ N by omega), D6 (N + 1) (by omega), va_up_ne _ _ (show N + 1 ≠ N + 3 by omega), V2 0 (by omega)]
      show (Sum.inr (7, [Value.ref (A2 (N + 1 + 1)), .int 0, .int 0, .int 0]) : mm_Ce) = _
      rw [show A2 (N + 1 + 1) = A6 (N + 2) from by rw [E6 (N + 2) (by omega), E4 (N + 2) (by omega)]]
      rfl
    | 2, _ =>
      show va_up _ _ _ (N + 2) = _
      rw [va_up_ne _ _ (show N + 2 ≠ N by omega), D6 (N + 2) (by omega), va_up_ne _ _ (show N + 2 ≠ N + 3 by omega), V2 1 (by omega)]
      rfl
    | 3, _ =>
      show va_up _ _ _ (N + 3) = _
      rw [va_up_ne _ _ (show N + 3 ≠ N by omega), D6 (N + 3) (by omega), va_up_self]
      rfl
    | 4, _ =>
      show va_up _ _ _ (N + 4) = _
      rw [va_up_ne _ _ (show N + 4 ≠ N by omega), U6]
      have e9 : aR_ 15 (fun t => A6 (N + 4 + 1 + t)) = aR_ 15 (fun k => A6 (N + (k + 5))) := aR_c (fun k _ => by rw [show N + 4 + 1 + k = N + (k + 5) by omega])
      rw [e9]
      rfl
    | j + 5, hj =>
      rw [show N + (j + 5) = N + 4 + 1 + j by omega, va_up_ne _ _ (by omega), V6 j (by omega)]
      rfl
end KS

section KW
variable {X : mm_Cl} {S : Nat → Nat} {d : Nat}
/-- what lies behind the object newly made -/
def PX_ (N : Nat) (A : Nat → Nat) (C : Nat → mm_Ce) : Prop := PT_ A C (N + 1) ∧ PT_ A C (N + 17) ∧ PT_ A C (N + 33) ∧ C (N + 49) = .inl (7, 8, .inr (.inr (.inr (.inr (aR_ 8 (fun j => A (N + 85 + 16 * j))))))) ∧ (∀ j, j < 13 → C (N + 50 + j) = yc_ (fun t => A (N + 50 + t)) (fun _ _ => 0) j) ∧ (∀ j, j < 20 → C (N + 63 + j) = zZ_ (fun t => A (N + 63 + t)) j) ∧ (∀ j, j < 2 → C (N + 83 + j) = zS_ (fun t => A (N + 83 + t)) j) ∧ ∀ k, k < 8 → PT_ A C (N + 85 + 16 * k)
theorem k_X (hX : mm_mono X) (hS : mm_XS S X) {N : Nat} {A : Nat → Nat} {C : Nat → mm_Ce} {h : mm_S} {Q : mm_Re → Prop} (W0 : W_ (N + 1) A (va_up C N (.inr (5, mm_dfl 5))) h)
    (hg : ∀ A2 C2 h2, (∀ j, j < N + 1 → A2 j = A j) → (∀ j, j < N → C2 j = C j) → PX_ N A2 C2 → W_ (N + 213) A2 (va_up C2 N (.inr (5, [.ref (A2 (N + 1)), .ref (A2 (N + 17)), .ref (A2 (N + 33)), .int (ki 0), .ref (A2 (N + 49)), .int (ki 0), .int (ki 0), .ref (A2 (N + 50)), .ref (A2 (N + 63)), .int (ki (-1)), .long (kl 0), .long (kl 0), .ref (A2 (N + 83))]))) h2 → Q (.inl none, h2)) : mm_Run X (d + 4) 67 220 1600 [.ref (A N)] h Q := by
  refine mm_Run_in (by decide) (by decide) (Nat.le_of_ble_eq_true rfl) ?_
  obtain ⟨o, hoA⟩ : ∃ o, A N = o := ⟨_, rfl⟩
  rw [hoA]
  show mm_Ex (mm_Run X (d + 3)) 67 Q (0, [], [(0, .ref o)], h) 220 1600
  refine go_adv hX c_67 1 (F2 := (1, [.ref o], [(0, .ref o)], h)) rfl ?_
  refine go_obj hX c_67 rfl (Nat.le_of_ble_eq_true rfl) ?_
  refine go_adv hX c_67 1 (F2 := (5, [.ref o], [(0, .ref o)], h)) rfl ?_
  refine ct_new (N := N + 1) hX 10 c_67 rfl rfl (by omega) (by omega) W0 (by omega) fun A1 g1 E1 W1 => ?_
  have o1 : A1 N = o := (E1 N (by omega)).trans hoA
  refine go_p hX c_67 rfl rfl rfl ?_
  refine ct_call (N := N + 1) (As := []) (mc := 15) (ms := 100) (n := 15) hX (k_T hX (d := d + 1)) c_67 rfl (by decide) (Nat.le_of_ble_eq_true rfl) rfl rfl (Nat.le_of_ble_eq_true rfl) (by omega) (by omega) W1 (by omega) fun A2 C2 g2 E2 D2 V2 W2 => ?_
  have o2 : A2 N = o := (E2 N (by omega)).trans o1
  rw [show A1 (N + 1) = A2 (N + 1) from (E2 _ (by omega)).symm]
  refine ct_pu (N := N + 17) [.ref (A2 (N + 1)), .null, .null, .int 0, .null, .int 0, .int 0, .null, .null, .int 0, .long 0, .long 0, .null] hX c_67 rfl W2 (by omega) o2 (Nat.le_of_ble_eq_true rfl) (⟨rfl, rfl⟩) rfl fun g3 W3 => ?_
  refine go_adv hX c_67 1 (F2 := (16, [.ref o], [(0, .ref o)], g3)) rfl ?_
  refine ct_new (N := N + 17) hX 10 c_67 rfl rfl (by omega) (by omega) W3 (by omega) fun A4 g4 E4 W4 => ?_
  have o4 : A4 N = o := (E4 N (by omega)).trans o2
  refine go_p hX c_67 rfl rfl rfl ?_
  refine ct_call (N := N + 17) (As := []) (mc := 15) (ms := 100) (n := 15) hX (k_T hX (d := d + 1)) c_67 rfl (by decide) (Nat.le_of_ble_eq_true rfl) rfl rfl (Nat.le_of_ble_eq_true rfl) (by omega) (by omega) W4 (by omega) fun A5 C5 g5 E5 D5 V5 W5 => ?_
  have o5 : A5 N = o := (E5 N (by omega)).trans o4
  rw [show A4 (N + 17) = A5 (N + 17) from (E5 _ (by omega)).symm]
  refine ct_pu (N := N + 33) [.ref (A2 (N + 1)), .ref (A5 (N + 17)), .null, .int 0, .null, .int 0, .int 0, .null, .null, .int 0, .long 0, .long 0, .null] hX c_67 rfl W5 (by omega) o5 (Nat.le_of_ble_eq_true rfl) (⟨rfl, rfl⟩) rfl fun g6 W6 => ?_
  refine go_adv hX c_67 1 (F2 := (27, [.ref o], [(0, .ref o)], g6)) rfl ?_
  refine ct_new (N := N + 33) hX 10 c_67 rfl rfl (by omega) (by omega) W6 (by omega) fun A7 g7 E7 W7 => ?_
  have o7 : A7 N = o := (E7 N (by omega)).trans o5
  refine go_p hX c_67 rfl rfl rfl ?_
  refine ct_call (N := N + 33) (As := []) (mc := 15) (ms := 100) (n := 15) hX (k_T hX (d := d + 1)) c_67 rfl (by decide) (Nat.le_of_ble_eq_true rfl) rfl rfl (Nat.le_of_ble_eq_true rfl) (by omega) (by omega) W7 (by omega) fun A8 C8 g8 E8 D8 V8 W8 => ?_
  have o8 : A8 N = o := (E8 N (by omega)).trans o7
  rw [show A7 (N + 33) = A8 (N + 33) from (E8 _ (by omega)).symm]
  refine ct_pu (N := N + 49) [.ref (A2 (N + 1)), .ref (A5 (N + 17)), .ref (A8 (N + 33)), .int 0, .null, .int 0, .int 0, .null, .null, .int 0, .long 0, .long 0, .null] hX c_67 rfl W8 (by omega) o8 (Nat.le_of_ble_eq_true rfl) (⟨rfl, rfl⟩) rfl fun g9 W9 => ?_
  refine go_adv hX c_67 2 (F2 := (39, [.int (ki 0), .ref o], [(0, .ref o)], g9)) rfl ?_
  refine ct_pu (N := N + 49) [.ref (A2 (N + 1)), .ref (A5 (N + 17)), .ref (A8 (N + 33)), .int (ki 0), .null, .int 0, .int 0, .null, .null, .int 0, .long 0, .long 0, .null] hX c_67 rfl W9 (by omega) o8 (Nat.le_of_ble_eq_true rfl) (fit_int _) rfl fun g10 W10 => ?_
  refine go_adv hX c_67 2 (F2 := (45, [.int (kb 8), .ref o], [(0, .ref o)], g10)) rfl ?_
  refine ct_anew (N := N + 49) hX 8 c_67 rfl (by decide) (by decide) (by decide) (by decide) (by omega) (by omega) W10 (by omega) fun A11 g11 E11 W11 => ?_
  have o11 : A11 N = o := (E11 N (by omega)).trans o8
  refine ct_pu (N := N + 50) [.ref (A2 (N + 1)), .ref (A5 (N + 17)), .ref (A8 (N + 33)), .int (ki 0), .ref (A11 (N + 49)), .int 0, .int 0, .null, .null, .int 0, .long 0, .long 0, .null] hX c_67 rfl W11 (by omega) o11 (Nat.le_of_ble_eq_true rfl) (⟨rfl, rfl⟩) rfl fun g12 W12 => ?_
  refine go_adv hX c_67 2 (F2 := (53, [.int (ki 0), .ref o], [(0, .ref o)], g12)) rfl ?_
  refine ct_pu (N := N + 50) [.ref (A2 (N + 1)), .ref (A5 (N + 17)), .ref (A8 (N + 33)), .int (ki 0), .ref (A11 (N + 49)), .int (ki 0), .int 0, .null, .null, .int 0, .long 0, .long 0, .null] hX c_67 rfl W12 (by omega) o11 (Nat.le_of_ble_eq_true rfl) (fit_int _) rfl fun g13 W13 => ?_
  refine go_adv hX c_67 2 (F2 := (58, [.int (ki 0), .ref o], [(0, .ref o)], g13)) rfl ?_
  refine ct_pu (N := N + 50) [.ref (A2 (N + 1)), .ref (A5 (N + 17)), .ref (A8 (N + 33)), .int (ki 0), .ref (A11 (N + 49)), .int (ki 0), .int (ki 0), .null, .null, .int 0, .long 0, .long 0, .null] hX c_67 rfl W13 (by omega) o11 (Nat.le_of_ble_eq_true rfl) (fit_int _) rfl fun g14 W14 => ?_
  refine go_adv hX c_67 1 (F2 := (62, [.ref o], [(0, .ref o)], g14)) rfl ?_
  refine ct_new (N := N + 50) hX 4 c_67 rfl rfl (by omega) (by omega) W14 (by omega) fun A15 g15 E15 W15 => ?_
  have o15 : A15 N = o := (E15 N (by omega)).trans o11
  refine go_p hX c_67 rfl rfl rfl ?_
  refine ct_call (N := N + 50) (As := []) (mc := 12) (ms := 96) (n := 12) hX (k_Wy hX (d := d + 2)) c_67 rfl (by decide) (Nat.le_of_ble_eq_true rfl) rfl rfl (Nat.le_of_ble_eq_true rfl) (by omega) (by omega) W15 (by omega) fun A16 C16 g16 E16 D16 V16 W16 => ?_
  have o16 : A16 N = o := (E16 N (by omega)).trans o15
  rw [show A15 (N + 50) = A16 (N + 50) from (E16 _ (by omega)).symm]
  refine ct_pu (N := N + 63) [.ref (A2 (N + 1)), .ref (A5 (N + 17)), .ref (A8 (N + 33)), .int (ki 0), .ref (A11 (N + 49)), .int (ki 0), .int (ki 0), .ref (A16 (N + 50)), .null, .int 0, .long 0, .long 0, .null] hX c_67 rfl W16 (by omega) o16 (Nat.le_of_ble_eq_true rfl) (⟨rfl, rfl⟩) rfl fun g17 W17 => ?_
  refine go_adv hX c_67 1 (F2 := (73, [.ref o], [(0, .ref o)], g17)) rfl ?_
  refine ct_new (N := N + 63) hX 4 c_67 rfl rfl (by omega) (by omega) W17 (by omega) fun A18 g18 E18 W18 => ?_
  have o18 : A18 N = o := (E18 N (by omega)).trans o16
  refine go_p hX c_67 rfl rfl rfl ?_
  refine ct_call (N := N + 63) (As := []) (mc := 22) (ms := 200) (n := 19) hX (k_Z hX hS (d := d)) c_67 rfl (by decide) (Nat.le_of_ble_eq_true rfl) rfl rfl (Nat.le_of_ble_eq_true rfl) (by omega) (by omega) W18 (by omega) fun A19 C19 g19 E19 D19 V19 W19 => ?_
  have o19 : A19 N = o := (E19 N (by omega)).trans o18
  rw [show A18 (N + 63) = A19 (N + 63) from (E19 _ (by omega)).symm]
  refine ct_pu (N := N + 83) [.ref (A2 (N + 1)), .ref (A5 (N + 17)), .ref (A8 (N + 33)), .int (ki 0), .ref (A11 (N + 49)), .int (ki 0), .int (ki 0), .ref (A16 (N + 50)), .ref (A19 (N + 63)), .int 0, .long 0, .long 0, .null] hX c_67 rfl W19 (by omega) o19 (Nat.le_of_ble_eq_true rfl) (⟨rfl, rfl⟩) rfl fun g20 W20 => ?_
  refine go_adv hX c_67 2 (F2 := (85, [.int (ki (-1)), .ref o], [(0, .ref o)], g20)) rfl ?_
  refine ct_pu (N := N + 83) [.ref (A2 (N + 1)), .ref (A5 (N + 17)), .ref (A8 (N + 33)), .int (ki 0), .ref (A11 (N + 49)), .int (ki 0), .int (ki 0), .ref (A16 (N + 50)), .ref (A19 (N + 63)), .int (ki (-1)), .long 0, .long 0, .null] hX c_67 rfl W20 (by omega) o19 (Nat.le_of_ble_eq_true rfl) (fit_int _) rfl fun g21 W21 => ?_
  refine go_adv hX c_67 2 (F2 := (90, [.long (kl 0), .ref o], [(0, .ref o)], g21)) rfl ?_
  refine ct_pu (N := N + 83) [.ref (A2 (N + 1)), .ref (A5 (N + 17)), .ref (A8 (N + 33)), .int (ki 0), .ref (A11 (N + 49)), .int (ki 0), .int (ki 0), .ref (A16 (N + 50)), .ref (A19 (N + 63)), .int (ki (-1)), .long (kl 0), .long 0, .null] hX c_67 rfl W21 (by omega) o19 (Nat.le_of_ble_eq_true rfl) (⟨rfl, rfl⟩) rfl fun g22 W22 => ?_
  refine go_adv hX c_67 2 (F2 := (95, [.long (kl 0), .ref o], [(0, .ref o)], g22)) rfl ?_
  refine ct_pu (N := N + 83) [.ref (A2 (N + 1)), .ref (A5 (N + 17)), .ref (A8 (N + 33)), .int (ki 0), .ref (A11 (N + 49)), .int (ki 0), .int (ki 0), .ref (A16 (N + 50)), .ref (A19 (N + 63)), .int (ki (-1)), .long (kl 0), .long (kl 0), .null] hX c_67 rfl W22 (by omega) o19 (Nat.le_of_ble_eq_true rfl) (⟨rfl, rfl⟩) rfl fun g23 W23 => ?_
  refine go_adv hX c_67 1 (F2 := (99, [.ref o], [(0, .ref o)], g23)) rfl ?_
  refine ct_new (N := N + 83) hX 4 c_67 rfl rfl (by omega) (by omega) W23 (by omega) fun A24 g24 E24 W24 => ?_
  have o24 : A24 N = o := (E24 N (by omega)).trans o19
  refine go_p hX c_67 rfl rfl rfl ?_
  refine ct_call (N := N + 83) (As := []) (mc := 1) (ms := 16) (n := 1) hX (k_Sb hX hS (d := d + 1)) c_67 rfl (by decide) (Nat.le_of_ble_eq_true rfl) rfl rfl (Nat.le_of_ble_eq_true rfl) (by omega) (by omega) W24 (by omega) fun A25 C25 g25 E25 D25 V25 W25 => ?_
  have o25 : A25 N = o := (E25 N (by omega)).trans o24
  rw [show A24 (N + 83) = A25 (N + 83) from (E25 _ (by omega)).symm]
  refine ct_pu (N := N + 85) [.ref (A2 (N + 1)), .ref (A5 (N + 17)), .ref (A8 (N + 33)), .int (ki 0), .ref (A11 (N + 49)), .int (ki 0), .int (ki 0), .ref (A16 (N + 50)), .ref (A19 (N + 63)), .int (ki (-1)), .long (kl 0), .long (kl 0), .ref (A25 (N + 83))] hX c_67 rfl W25 (by omega) o25 (Nat.le_of_ble_eq_true rfl) (⟨rfl, rfl⟩) rfl fun g26 W26 => ?_
  have r2 : A2 (N + 1) = A25 (N + 1) := by rw [E25 _ (by omega), E24 _ (by omega), E19 _ (by omega), E18 _ (by omega), E16 _ (by omega), E15 _ (by omega), E11 _ (by omega), E8 _ (by omega), E7 _ (by omega), E5 _ (by omega), E4 _ (by omega)]
  rw [r2] at W26
  have r5 : A5 (N + 17) = A25 (N + 17) := by rw [E25 _ (by omega), E24 _ (by omega), E19 _ (by omega), E18 _ (by omega), E16 _ (by omega), E15 _ (by omega), E11 _ (by omega), E8 _ (by omega), E7 _ (by omega)]
  rw [r5] at W26
  have r8 : A8 (N + 33) = A25 (N + 33) := by rw [E25 _ (by omega), E24 _ (by omega), E19 _ (by omega), E18 _ (by omega), E16 _ (by omega), E15 _ (by omega), E11 _ (by omega)]
  rw [r8] at W26
  have r11 : A11 (N + 49) = A25 (N + 49) := by rw [E25 _ (by omega), E24 _ (by omega), E19 _ (by omega), E18 _ (by omega), E16 _ (by omega), E15 _ (by omega)]
  rw [r11] at W26
  have r16 : A16 (N + 50) = A25 (N + 50) := by rw [E25 _ (by omega), E24 _ (by omega), E19 _ (by omega), E18 _ (by omega)]
  rw [r16] at W26
  have r19 : A19 (N + 63) = A25 (N + 63) := by rw [E25 _ (by omega), E24 _ (by omega)]
  rw [r19] at W26
  refine go_adv hX c_67 2 (F2 := (111, [], [(1, .int (nI 0)), (0, .ref o)], g26)) rfl ?_
  refine k_X2 (b := N + 85) (pa := N + 49) hX (by omega) (by omega) (by omega) rfl 8 0 rfl A25 _ g26 _ _ (by omega) (by omega) W26 o25 rfl (by rw [D25 (N + 49) (by omega), D19 (N + 49) (by omega), D16 (N + 49) (by omega), va_up_self, ← aR_0]; rfl) fun B2 F2 h2 k1 k2 k3 k4 W4 => ?_
  have hB : ∀ j, j < N + 85 → B2 j = A25 j := fun j hj => k1 j hj
  rw [← hB (N + 1) (by omega), ← hB (N + 17) (by omega), ← hB (N + 33) (by omega), ← hB (N + 49) (by omega), ← hB (N + 50) (by omega), ← hB (N + 63) (by omega), ← hB (N + 83) (by omega)] at W4
  refine go_ret hX (d := d + 3) c_67 rfl rfl ?_
  have a2 : ∀ j, j < N + 17 → B2 j = A2 j := fun j hj => by rw [hB j (by omega), E25 j (by omega), E24 j (by omega), E19 j (by omega), E18 j (by omega), E16 j (by omega), E15 j (by omega), E11 j (by omega), E8 j (by omega), E7 j (by omega), E5 j (by omega), E4 j (by omega)]
  have b2 : ∀ j, j < N + 17 → j ≠ N + 49 → F2 j = C2 j := fun j hj hj2 => by rw [k2 j (by omega) hj2, D25 j (by omega), D19 j (by omega), D16 j (by omega), va_up_ne _ _ (show j ≠ N + 49 by omega), D8 j (by omega), D5 j (by omega)]
  have a5 : ∀ j, j < N + 33 → B2 j = A5 j := fun j hj => by rw [hB j (by omega), E25 j (by omega), E24 j (by omega), E19 j (by omega), E18 j (by omega), E16 j (by omega), E15 j (by omega), E11 j (by omega), E8 j (by omega), E7 j (by omega)]
  have b5 : ∀ j, j < N + 33 → j ≠ N + 49 → F2 j = C5 j := fun j hj hj2 => by rw [k2 j (by omega) hj2, D25 j (by omega), D19 j (by omega), D16 j (by omega), va_up_ne _ _ (show j ≠ N + 49 by omega), D8 j (by omega)]
  have a8 : ∀ j, j < N + 49 → B2 j = A8 j := fun j hj => by rw [hB j (by omega), E25 j (by omega), E24 j (by omega), E19 j (by omega), E18 j (by omega), E16 j (by omega), E15 j (by omega), E11 j (by omega)]
  have b8 : ∀ j, j < N + 49 → j ≠ N + 49 → F2 j = C8 j := fun j hj hj2 => by rw [k2 j (by omega) hj2, D25 j (by omega), D19 j (by omega), D16 j (by omega), va_up_ne _ _ (show j ≠ N + 49 by omega)]
  have a16 : ∀ j, j < N + 63 → B2 j = A16 j := fun j hj => by rw [hB j (by omega), E25 j (by omega), E24 j (by omega), E19 j (by omega), E18 j (by omega)]
  have b16 : ∀ j, j < N + 63 → j ≠ N + 49 → F2 j = C16 j := fun j hj hj2 => by rw [k2 j (by omega) hj2, D25 j (by omega), D19 j (by omega)]
  have a19 : ∀ j, j < N + 83 → B2 j = A19 j := fun j hj => by rw [hB j (by omega), E25 j (by omega), E24 j (by omega)]
  have b19 : ∀ j, j < N + 83 → j ≠ N + 49 → F2 j = C19 j := fun j hj hj2 => by rw [k2 j (by omega) hj2, D25 j (by omega)]
  have a25 : ∀ j, j < N + 85 → B2 j = A25 j := fun j hj => by rw [hB j (by omega)]
  have b25 : ∀ j, j < N + 85 → j ≠ N + 49 → F2 j = C25 j := fun j hj hj2 => by rw [k2 j (by omega) hj2]
  refine hg B2 F2 h2 (fun j hj => by rw [hB j (by omega), E25 j (by omega), E24 j (by omega), E19 j (by omega), E18 j (by omega), E16 j (by omega), E15 j (by omega), E11 j (by omega), E8 j (by omega), E7 j (by omega), E5 j (by omega), E4 j (by omega), E2 j (by omega), E1 j (by omega)]) (fun j hj => by rw [k2 j (by omega) (by omega), D25 j (by omega), D19 j (by omega), D16 j (by omega), va_up_ne _ _ (show j ≠ N + 49 by omega), D8 j (by omega), D5 j (by omega), D2 j (by omega)]) ⟨?_, ?_, ?_, k3, ?_, ?_, ?_, fun k hk => k4 k (Nat.zero_le _) hk⟩ W4
  · exact PT_c (A := A2) (C := C2) (fun j hj => V2 j (by omega)) (fun j hj => a2 _ (by omega)) (fun j hj => b2 _ (by omega) (by omega))
  · exact PT_c (A := A5) (C := C5) (fun j hj => V5 j (by omega)) (fun j hj => a5 _ (by omega)) (fun j hj => b5 _ (by omega) (by omega))
  · exact PT_c (A := A8) (C := C8) (fun j hj => V8 j (by omega)) (fun j hj => a8 _ (by omega)) (fun j hj => b8 _ (by omega) (by omega))
  · exact fun j hj => by
      rw [b16 _ (by omega) (by omega), V16 j (by omega)]
      exact (yc_l (fun t ht => a16 _ (by omega))).symm
  · exact fun j hj => by
      rw [b19 _ (by omega) (by omega), V19 j (by omega)]
      exact (zZ_l (fun t ht => a19 _ (by omega))).symm
  · exact fun j hj => by
      rw [b25 _ (by omega) (by omega), V25 j (by omega)]
      exact (zS_l (l := fun t => A25 (N + 83 + t)) (l' := fun t => B2 (N + 83 + t)) (a25 _ (by omega))).symm
end KW

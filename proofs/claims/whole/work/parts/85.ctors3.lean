section KN
variable {X : mm_Cl} {S : Nat → Nat} {d : Nat}
theorem ct_pu {y pc N c k : Nat} {Q : mm_Re → Prop} {K : List mm_E} {ls : mm_L} {h : mm_S} {rest : List Value} {i o ci : Nat} {A : Nat → Nat} {C : Nat → mm_Ce} {fs : List Value} (fs2 : List Value) (hX : mm_mono X) {ix f : Nat} {v : Value} (cd : mm_cd y = K) (hf : mm_find K pc = some (.putfield ix, ci, f)) (hW : W_ N A (va_up C i (.inr (ci, fs))) h) (hi : i < N) (ho : A i = o) (hl : f < fs.length) (hfit : narrow (mm_fty ci f) v = v ∧ fits (mm_fty ci f) v = true) (hs : fs.set f v = fs2)
    (g : ∀ h2, W_ N A (va_up C i (.inr (ci, fs2))) h2 → mm_Ex (mm_Run X d) y Q (pc + 3, rest, ls, h2) c k) : mm_Ex (mm_Run X d) y Q (pc, v :: .ref o :: rest, ls, h) c k := by
  subst hs
  exact ct_put hX cd hf hW hi ho hl hfit g
def kM_ (i k : Nat) : Int32 := if i = 0 then (if k = 13 then ki (-1) else ki 0) else if i = 1 then (if 24 ≤ k ∧ k < 32 then (if k - 24 < 2 then nI (k - 24) else ki 2) else upd (upd (upd (upd (fun _ => 0) (12 + 5 * 0) (kb 30)) (13 + 5 * 0) (nI 0)) (12 + 5 * 1) (kb 30)) (13 + 5 * 1) (nI 1) k) else 0
theorem k_M (hX : mm_mono X) : CT_ X (d + 1) 123 10 1556 [] 6 10 (fun l j => mc_ l kM_ j) := by
  intro N A C h Q W0 hg
  refine mm_Run_in (by decide) (by decide) (Nat.le_of_ble_eq_true rfl) ?_
  obtain ⟨o, hoA⟩ : ∃ o, A N = o := ⟨_, rfl⟩
  rw [hoA]
  show mm_Ex (mm_Run X d) 123 Q (0, [], [(0, .ref o)], h) 10 1556
  refine go_adv hX c_123 1 (F2 := (1, [.ref o], [(0, .ref o)], h)) rfl ?_
  refine go_obj hX c_123 rfl (Nat.le_of_ble_eq_true rfl) ?_
  refine go_adv hX c_123 2 (F2 := (7, [.int (kb 110), .ref o], [(0, .ref o)], h)) rfl ?_
  refine ct_narr (N := N + 1) hX 110 c_123 rfl rfl (by decide) (by decide) (by decide) (by omega) (by omega) W0 (by omega) fun A1 g1 E1 W1 => ?_
  have o1 : A1 N = o := (E1 N (by omega)).trans hoA
  refine ct_pu (N := N + 2) [.ref (A1 (N + 1)), .null, .null, .null, .null, .int 0, .int 0, .int 0, .int 0, .int 0, .int 0, .int 0, .int 0, .int 0, .int 0, .null, .null, .null, .null, .int 0, .int 0, .int 0, .int 0, .int 0, .null, .int 0] hX c_123 rfl W1 (by omega) o1 (Nat.le_of_ble_eq_true rfl) (⟨rfl, rfl⟩) rfl fun g2 W2 => ?_
  refine go_adv hX c_123 2 (F2 := (15, [.int (kb 110), .ref o], [(0, .ref o)], g2)) rfl ?_
  refine ct_narr (N := N + 2) hX 110 c_123 rfl rfl (by decide) (by decide) (by decide) (by omega) (by omega) W2 (by omega) fun A3 g3 E3 W3 => ?_
  have o3 : A3 N = o := (E3 N (by omega)).trans o1
  refine ct_pu (N := N + 3) [.ref (A1 (N + 1)), .ref (A3 (N + 2)), .null, .null, .null, .int 0, .int 0, .int 0, .int 0, .int 0, .int 0, .int 0, .int 0, .int 0, .int 0, .null, .null, .null, .null, .int 0, .int 0, .int 0, .int 0, .int 0, .null, .int 0] hX c_123 rfl W3 (by omega) o3 (Nat.le_of_ble_eq_true rfl) (⟨rfl, rfl⟩) rfl fun g4 W4 => ?_
  refine go_adv hX c_123 2 (F2 := (23, [.int (kb 110), .ref o], [(0, .ref o)], g4)) rfl ?_
  refine ct_narr (N := N + 3) hX 110 c_123 rfl rfl (by decide) (by decide) (by decide) (by omega) (by omega) W4 (by omega) fun A5 g5 E5 W5 => ?_
  have o5 : A5 N = o := (E5 N (by omega)).trans o3
  refine ct_pu (N := N + 4) [.ref (A1 (N + 1)), .ref (A3 (N + 2)), .ref (A5 (N + 3)), .null, .null, .int 0, .int 0, .int 0, .int 0, .int 0, .int 0, .int 0, .int 0, .int 0, .int 0, .null, .null, .null, .null, .int 0, .int 0, .int 0, .int 0, .int 0, .null, .int 0] hX c_123 rfl W5 (by omega) o5 (Nat.le_of_ble_eq_true rfl) (⟨rfl, rfl⟩) rfl fun g6 W6 => ?_
  refine go_adv hX c_123 2 (F2 := (31, [.int (kb 110), .ref o], [(0, .ref o)], g6)) rfl ?_
  refine ct_narr (N := N + 4) hX 110 c_123 rfl rfl (by decide) (by decide) (by decide) (by omega) (by omega) W6 (by omega) fun A7 g7 E7 W7 => ?_
  have o7 : A7 N = o := (E7 N (by omega)).trans o5
  refine ct_pu (N := N + 5) [.ref (A1 (N + 1)), .ref (A3 (N + 2)), .ref (A5 (N + 3)), .ref (A7 (N + 4)), .null, .int 0, .int 0, .int 0, .int 0, .int 0, .int 0, .int 0, .int 0, .int 0, .int 0, .null, .null, .null, .null, .int 0, .int 0, .int 0, .int 0, .int 0, .null, .int 0] hX c_123 rfl W7 (by omega) o7 (Nat.le_of_ble_eq_true rfl) (⟨rfl, rfl⟩) rfl fun g8 W8 => ?_
  refine go_adv hX c_123 2 (F2 := (40, [.int (ks 880), .ref o], [(0, .ref o)], g8)) rfl ?_
  refine ct_narr (N := N + 5) hX 880 c_123 rfl rfl (by decide) (by decide) (by decide) (by omega) (by omega) W8 (by omega) fun A9 g9 E9 W9 => ?_
  have o9 : A9 N = o := (E9 N (by omega)).trans o7
  refine ct_pu (N := N + 6) [.ref (A1 (N + 1)), .ref (A3 (N + 2)), .ref (A5 (N + 3)), .ref (A7 (N + 4)), .ref (A9 (N + 5)), .int 0, .int 0, .int 0, .int 0, .int 0, .int 0, .int 0, .int 0, .int 0, .int 0, .null, .null, .null, .null, .int 0, .int 0, .int 0, .int 0, .int 0, .null, .int 0] hX c_123 rfl W9 (by omega) o9 (Nat.le_of_ble_eq_true rfl) (⟨rfl, rfl⟩) rfl fun g10 W10 => ?_
  refine go_adv hX c_123 2 (F2 := (47, [.int (ki 0), .ref o], [(0, .ref o)], g10)) rfl ?_
  refine ct_pu (N := N + 6) [.ref (A1 (N + 1)), .ref (A3 (N + 2)), .ref (A5 (N + 3)), .ref (A7 (N + 4)), .ref (A9 (N + 5)), .int (ki 0), .int 0, .int 0, .int 0, .int 0, .int 0, .int 0, .int 0, .int 0, .int 0, .null, .null, .null, .null, .int 0, .int 0, .int 0, .int 0, .int 0, .null, .int 0] hX c_123 rfl W10 (by omega) o9 (Nat.le_of_ble_eq_true rfl) (fit_int _) rfl fun g11 W11 => ?_
  refine go_adv hX c_123 2 (F2 := (52, [.int (ki 0), .ref o], [(0, .ref o)], g11)) rfl ?_
  refine ct_pu (N := N + 6) [.ref (A1 (N + 1)), .ref (A3 (N + 2)), .ref (A5 (N + 3)), .ref (A7 (N + 4)), .ref (A9 (N + 5)), .int (ki 0), .int (ki 0), .int 0, .int 0, .int 0, .int 0, .int 0, .int 0, .int 0, .int 0, .null, .null, .null, .null, .int 0, .int 0, .int 0, .int 0, .int 0, .null, .int 0] hX c_123 rfl W11 (by omega) o9 (Nat.le_of_ble_eq_true rfl) (fit_int _) rfl fun g12 W12 => ?_
  refine go_adv hX c_123 2 (F2 := (57, [.int (ki 0), .ref o], [(0, .ref o)], g12)) rfl ?_
  refine ct_pu (N := N + 6) [.ref (A1 (N + 1)), .ref (A3 (N + 2)), .ref (A5 (N + 3)), .ref (A7 (N + 4)), .ref (A9 (N + 5)), .int (ki 0), .int (ki 0), .int (ki 0), .int 0, .int 0, .int 0, .int 0, .int 0, .int 0, .int 0, .null, .null, .null, .null, .int 0, .int 0, .int 0, .int 0, .int 0, .null, .int 0] hX c_123 rfl W12 (by omega) o9 (Nat.le_of_ble_eq_true rfl) (fit_int _) rfl fun g13 W13 => ?_
  refine go_adv hX c_123 2 (F2 := (62, [.int (ki 0), .ref o], [(0, .ref o)], g13)) rfl ?_
  refine ct_pu (N := N + 6) [.ref (A1 (N + 1)), .ref (A3 (N + 2)), .ref (A5 (N + 3)), .ref (A7 (N + 4)), .ref (A9 (N + 5)), .int (ki 0), .int (ki 0), .int (ki 0), .int (ki 0), .int 0, .int 0, .int 0, .int 0, .int 0, .int 0, .null, .null, .null, .null, .int 0, .int 0, .int 0, .int 0, .int 0, .null, .int 0] hX c_123 rfl W13 (by omega) o9 (Nat.le_of_ble_eq_true rfl) (fit_int _) rfl fun g14 W14 => ?_
  refine go_adv hX c_123 2 (F2 := (67, [.int (ki 0), .ref o], [(0, .ref o)], g14)) rfl ?_
  refine ct_pu (N := N + 6) [.ref (A1 (N + 1)), .ref (A3 (N + 2)), .ref (A5 (N + 3)), .ref (A7 (N + 4)), .ref (A9 (N + 5)), .int (ki 0), .int (ki 0), .int (ki 0), .int (ki 0), .int (ki 0), .int 0, .int 0, .int 0, .int 0, .int 0, .null, .null, .null, .null, .int 0, .int 0, .int 0, .int 0, .int 0, .null, .int 0] hX c_123 rfl W14 (by omega) o9 (Nat.le_of_ble_eq_true rfl) (fit_int _) rfl fun g15 W15 => ?_
  refine go_adv hX c_123 2 (F2 := (72, [.int (ki 0), .ref o], [(0, .ref o)], g15)) rfl ?_
  refine ct_pu (N := N + 6) [.ref (A1 (N + 1)), .ref (A3 (N + 2)), .ref (A5 (N + 3)), .ref (A7 (N + 4)), .ref (A9 (N + 5)), .int (ki 0), .int (ki 0), .int (ki 0), .int (ki 0), .int (ki 0), .int (ki 0), .int 0, .int 0, .int 0, .int 0, .null, .null, .null, .null, .int 0, .int 0, .int 0, .int 0, .int 0, .null, .int 0] hX c_123 rfl W15 (by omega) o9 (Nat.le_of_ble_eq_true rfl) (fit_int _) rfl fun g16 W16 => ?_
  refine go_adv hX c_123 2 (F2 := (77, [.int (ki 0), .ref o], [(0, .ref o)], g16)) rfl ?_
  refine ct_pu (N := N + 6) [.ref (A1 (N + 1)), .ref (A3 (N + 2)), .ref (A5 (N + 3)), .ref (A7 (N + 4)), .ref (A9 (N + 5)), .int (ki 0), .int (ki 0), .int (ki 0), .int (ki 0), .int (ki 0), .int (ki 0), .int (ki 0), .int 0, .int 0, .int 0, .null, .null, .null, .null, .int 0, .int 0, .int 0, .int 0, .int 0, .null, .int 0] hX c_123 rfl W16 (by omega) o9 (Nat.le_of_ble_eq_true rfl) (fit_int _) rfl fun g17 W17 => ?_
  refine go_adv hX c_123 2 (F2 := (82, [.int (ki 0), .ref o], [(0, .ref o)], g17)) rfl ?_
  refine ct_pu (N := N + 6) [.ref (A1 (N + 1)), .ref (A3 (N + 2)), .ref (A5 (N + 3)), .ref (A7 (N + 4)), .ref (A9 (N + 5)), .int (ki 0), .int (ki 0), .int (ki 0), .int (ki 0), .int (ki 0), .int (ki 0), .int (ki 0), .int (ki 0), .int 0, .int 0, .null, .null, .null, .null, .int 0, .int 0, .int 0, .int 0, .int 0, .null, .int 0] hX c_123 rfl W17 (by omega) o9 (Nat.le_of_ble_eq_true rfl) (fit_int _) rfl fun g18 W18 => ?_
  refine go_adv hX c_123 2 (F2 := (87, [.int (ki (-1)), .ref o], [(0, .ref o)], g18)) rfl ?_
  refine ct_pu (N := N + 6) [.ref (A1 (N + 1)), .ref (A3 (N + 2)), .ref (A5 (N + 3)), .ref (A7 (N + 4)), .ref (A9 (N + 5)), .int (ki 0), .int (ki 0), .int (ki 0), .int (ki 0), .int (ki 0), .int (ki 0), .int (ki 0), .int (ki 0), .int (ki (-1)), .int 0, .null, .null, .null, .null, .int 0, .int 0, .int 0, .int 0, .int 0, .null, .int 0] hX c_123 rfl W18 (by omega) o9 (Nat.le_of_ble_eq_true rfl) (fit_int _) rfl fun g19 W19 => ?_
  refine go_adv hX c_123 2 (F2 := (92, [.int (ki 0), .ref o], [(0, .ref o)], g19)) rfl ?_
  refine ct_pu (N := N + 6) [.ref (A1 (N + 1)), .ref (A3 (N + 2)), .ref (A5 (N + 3)), .ref (A7 (N + 4)), .ref (A9 (N + 5)), .int (ki 0), .int (ki 0), .int (ki 0), .int (ki 0), .int (ki 0), .int (ki 0), .int (ki 0), .int (ki 0), .int (ki (-1)), .int (ki 0), .null, .null, .null, .null, .int 0, .int 0, .int 0, .int 0, .int 0, .null, .int 0] hX c_123 rfl W19 (by omega) o9 (Nat.le_of_ble_eq_true rfl) (fit_int _) rfl fun g20 W20 => ?_
  refine go_adv hX c_123 2 (F2 := (98, [.int (kb 8), .ref o], [(0, .ref o)], g20)) rfl ?_
  refine ct_narr (N := N + 6) hX 8 c_123 rfl rfl (by decide) (by decide) (by decide) (by omega) (by omega) W20 (by omega) fun A21 g21 E21 W21 => ?_
  have o21 : A21 N = o := (E21 N (by omega)).trans o9
  refine ct_pu (N := N + 7) [.ref (A1 (N + 1)), .ref (A3 (N + 2)), .ref (A5 (N + 3)), .ref (A7 (N + 4)), .ref (A9 (N + 5)), .int (ki 0), .int (ki 0), .int (ki 0), .int (ki 0), .int (ki 0), .int (ki 0), .int (ki 0), .int (ki 0), .int (ki (-1)), .int (ki 0), .ref (A21 (N + 6)), .null, .null, .null, .int 0, .int 0, .int 0, .int 0, .int 0, .null, .int 0] hX c_123 rfl W21 (by omega) o21 (Nat.le_of_ble_eq_true rfl) (⟨rfl, rfl⟩) rfl fun g22 W22 => ?_
  refine go_adv hX c_123 2 (F2 := (106, [.int (kb 60), .ref o], [(0, .ref o)], g22)) rfl ?_
  refine ct_narr (N := N + 7) hX 60 c_123 rfl rfl (by decide) (by decide) (by decide) (by omega) (by omega) W22 (by omega) fun A23 g23 E23 W23 => ?_
  have o23 : A23 N = o := (E23 N (by omega)).trans o21
  refine ct_pu (N := N + 8) [.ref (A1 (N + 1)), .ref (A3 (N + 2)), .ref (A5 (N + 3)), .ref (A7 (N + 4)), .ref (A9 (N + 5)), .int (ki 0), .int (ki 0), .int (ki 0), .int (ki 0), .int (ki 0), .int (ki 0), .int (ki 0), .int (ki 0), .int (ki (-1)), .int (ki 0), .ref (A21 (N + 6)), .ref (A23 (N + 7)), .null, .null, .int 0, .int 0, .int 0, .int 0, .int 0, .null, .int 0] hX c_123 rfl W23 (by omega) o23 (Nat.le_of_ble_eq_true rfl) (⟨rfl, rfl⟩) rfl fun g24 W24 => ?_
  refine go_adv hX c_123 2 (F2 := (114, [.int (kb 32), .ref o], [(0, .ref o)], g24)) rfl ?_
  refine ct_narr (N := N + 8) hX 32 c_123 rfl rfl (by decide) (by decide) (by decide) (by omega) (by omega) W24 (by omega) fun A25 g25 E25 W25 => ?_
  have o25 : A25 N = o := (E25 N (by omega)).trans o23
  refine ct_pu (N := N + 9) [.ref (A1 (N + 1)), .ref (A3 (N + 2)), .ref (A5 (N + 3)), .ref (A7 (N + 4)), .ref (A9 (N + 5)), .int (ki 0), .int (ki 0), .int (ki 0), .int (ki 0), .int (ki 0), .int (ki 0), .int (ki 0), .int (ki 0), .int (ki (-1)), .int (ki 0), .ref (A21 (N + 6)), .ref (A23 (N + 7)), .ref (A25 (N + 8)), .null, .int 0, .int 0, .int 0, .int 0, .int 0, .null, .int 0] hX c_123 rfl W25 (by omega) o25 (Nat.le_of_ble_eq_true rfl) (⟨rfl, rfl⟩) rfl fun g26 W26 => ?_
  refine go_adv hX c_123 2 (F2 := (122, [.int (kb 96), .ref o], [(0, .ref o)], g26)) rfl ?_
  refine ct_narr (N := N + 9) hX 96 c_123 rfl rfl (by decide) (by decide) (by decide) (by omega) (by omega) W26 (by omega) fun A27 g27 E27 W27 => ?_
  have o27 : A27 N = o := (E27 N (by omega)).trans o25
  refine ct_pu (N := N + 10) [.ref (A1 (N + 1)), .ref (A3 (N + 2)), .ref (A5 (N + 3)), .ref (A7 (N + 4)), .ref (A9 (N + 5)), .int (ki 0), .int (ki 0), .int (ki 0), .int (ki 0), .int (ki 0), .int (ki 0), .int (ki 0), .int (ki 0), .int (ki (-1)), .int (ki 0), .ref (A21 (N + 6)), .ref (A23 (N + 7)), .ref (A25 (N + 8)), .ref (A27 (N + 9)), .int 0, .int 0, .int 0, .int 0, .int 0, .null, .int 0] hX c_123 rfl W27 (by omega) o27 (Nat.le_of_ble_eq_true rfl) (⟨rfl, rfl⟩) rfl fun g28 W28 => ?_
  refine go_adv hX c_123 2 (F2 := (129, [.int (ki 0), .ref o], [(0, .ref o)], g28)) rfl ?_
  refine ct_pu (N := N + 10) [.ref (A1 (N + 1)), .ref (A3 (N + 2)), .ref (A5 (N + 3)), .ref (A7 (N + 4)), .ref (A9 (N + 5)), .int (ki 0), .int (ki 0), .int (ki 0), .int (ki 0), .int (ki 0), .int (ki 0), .int (ki 0), .int (ki 0), .int (ki (-1)), .int (ki 0), .ref (A21 (N + 6)), .ref (A23 (N + 7)), .ref (A25 (N + 8)), .ref (A27 (N + 9)), .int (ki 0), .int 0, .int 0, .int 0, .int 0, .null, .int 0] hX c_123 rfl W28 (by omega) o27 (Nat.le_of_ble_eq_true rfl) (fit_int _) rfl fun g29 W29 => ?_
  refine go_adv hX c_123 2 (F2 := (134, [.int (ki 0), .ref o], [(0, .ref o)], g29)) rfl ?_
  refine ct_pu (N := N + 10) [.ref (A1 (N + 1)), .ref (A3 (N + 2)), .ref (A5 (N + 3)), .ref (A7 (N + 4)), .ref (A9 (N + 5)), .int (ki 0), .int (ki 0), .int (ki 0), .int (ki 0), .int (ki 0), .int (ki 0), .int (ki 0), .int (ki 0), .int (ki (-1)), .int (ki 0), .ref (A21 (N + 6)), .ref (A23 (N + 7)), .ref (A25 (N + 8)), .ref (A27 (N + 9)), .int (ki 0), .int (ki 0), .int 0, .int 0, .int 0, .null, .int 0] hX c_123 rfl W29 (by omega) o27 (Nat.le_of_ble_eq_true rfl) (fit_int _) rfl fun g30 W30 => ?_
  refine go_adv hX c_123 2 (F2 := (139, [.int (ki 0), .ref o], [(0, .ref o)], g30)) rfl ?_
  refine ct_pu (N := N + 10) [.ref (A1 (N + 1)), .ref (A3 (N + 2)), .ref (A5 (N + 3)), .ref (A7 (N + 4)), .ref (A9 (N + 5)), .int (ki 0), .int (ki 0), .int (ki 0), .int (ki 0), .int (ki 0), .int (ki 0), .int (ki 0), .int (ki 0), .int (ki (-1)), .int (ki 0), .ref (A21 (N + 6)), .ref (A23 (N + 7)), .ref (A25 (N + 8)), .ref (A27 (N + 9)), .int (ki 0), .int (ki 0), .int (ki 0), .int 0, .int 0, .null, .int 0] hX c_123 rfl W30 (by omega) o27 (Nat.le_of_ble_eq_true rfl) (fit_int _) rfl fun g31 W31 => ?_
  refine go_adv hX c_123 2 (F2 := (144, [.int (ki 0), .ref o], [(0, .ref o)], g31)) rfl ?_
  refine ct_pu (N := N + 10) [.ref (A1 (N + 1)), .ref (A3 (N + 2)), .ref (A5 (N + 3)), .ref (A7 (N + 4)), .ref (A9 (N + 5)), .int (ki 0), .int (ki 0), .int (ki 0), .int (ki 0), .int (ki 0), .int (ki 0), .int (ki 0), .int (ki 0), .int (ki (-1)), .int (ki 0), .ref (A21 (N + 6)), .ref (A23 (N + 7)), .ref (A25 (N + 8)), .ref (A27 (N + 9)), .int (ki 0), .int (ki 0), .int (ki 0), .int (ki 0), .int 0, .null, .int 0] hX c_123 rfl W31 (by omega) o27 (Nat.le_of_ble_eq_true rfl) (fit_int _) rfl fun g32 W32 => ?_
  refine go_adv hX c_123 2 (F2 := (149, [.int (ki 0), .ref o], [(0, .ref o)], g32)) rfl ?_
  refine ct_pu (N := N + 10) [.ref (A1 (N + 1)), .ref (A3 (N + 2)), .ref (A5 (N + 3)), .ref (A7 (N + 4)), .ref (A9 (N + 5)), .int (ki 0), .int (ki 0), .int (ki 0), .int (ki 0), .int (ki 0), .int (ki 0), .int (ki 0), .int (ki 0), .int (ki (-1)), .int (ki 0), .ref (A21 (N + 6)), .ref (A23 (N + 7)), .ref (A25 (N + 8)), .ref (A27 (N + 9)), .int (ki 0), .int (ki 0), .int (ki 0), .int (ki 0), .int (ki 0), .null, .int 0] hX c_123 rfl W32 (by omega) o27 (Nat.le_of_ble_eq_true rfl) (fit_int _) rfl fun g33 W33 => ?_
  refine go_adv hX c_123 2 (F2 := (155, [.int (kb 40), .ref o], [(0, .ref o)], g33)) rfl ?_
  refine ct_narr (N := N + 10) hX 40 c_123 rfl rfl (by decide) (by decide) (by decide) (by omega) (by omega) W33 (by omega) fun A34 g34 E34 W34 => ?_
  have o34 : A34 N = o := (E34 N (by omega)).trans o27
  refine ct_pu (N := N + 11) [.ref (A1 (N + 1)), .ref (A3 (N + 2)), .ref (A5 (N + 3)), .ref (A7 (N + 4)), .ref (A9 (N + 5)), .int (ki 0), .int (ki 0), .int (ki 0), .int (ki 0), .int (ki 0), .int (ki 0), .int (ki 0), .int (ki 0), .int (ki (-1)), .int (ki 0), .ref (A21 (N + 6)), .ref (A23 (N + 7)), .ref (A25 (N + 8)), .ref (A27 (N + 9)), .int (ki 0), .int (ki 0), .int (ki 0), .int (ki 0), .int (ki 0), .ref (A34 (N + 10)), .int 0] hX c_123 rfl W34 (by omega) o34 (Nat.le_of_ble_eq_true rfl) (⟨rfl, rfl⟩) rfl fun g35 W35 => ?_
  refine go_adv hX c_123 2 (F2 := (162, [.int (ki 0), .ref o], [(0, .ref o)], g35)) rfl ?_
  refine ct_pu (N := N + 11) [.ref (A1 (N + 1)), .ref (A3 (N + 2)), .ref (A5 (N + 3)), .ref (A7 (N + 4)), .ref (A9 (N + 5)), .int (ki 0), .int (ki 0), .int (ki 0), .int (ki 0), .int (ki 0), .int (ki 0), .int (ki 0), .int (ki 0), .int (ki (-1)), .int (ki 0), .ref (A21 (N + 6)), .ref (A23 (N + 7)), .ref (A25 (N + 8)), .ref (A27 (N + 9)), .int (ki 0), .int (ki 0), .int (ki 0), .int (ki 0), .int (ki 0), .ref (A34 (N + 10)), .int (ki 0)] hX c_123 rfl W35 (by omega) o34 (Nat.le_of_ble_eq_true rfl) (fit_int _) rfl fun g36 W36 => ?_
  have r1 : A1 (N + 1) = A34 (N + 1) := by rw [E34 _ (by omega), E27 _ (by omega), E25 _ (by omega), E23 _ (by omega), E21 _ (by omega), E9 _ (by omega), E7 _ (by omega), E5 _ (by omega), E3 _ (by omega)]
  rw [r1] at W36
  have r3 : A3 (N + 2) = A34 (N + 2) := by rw [E34 _ (by omega), E27 _ (by omega), E25 _ (by omega), E23 _ (by omega), E21 _ (by omega), E9 _ (by omega), E7 _ (by omega), E5 _ (by omega)]
  rw [r3] at W36
  have r5 : A5 (N + 3) = A34 (N + 3) := by rw [E34 _ (by omega), E27 _ (by omega), E25 _ (by omega), E23 _ (by omega), E21 _ (by omega), E9 _ (by omega), E7 _ (by omega)]
  rw [r5] at W36
  have r7 : A7 (N + 4) = A34 (N + 4) := by rw [E34 _ (by omega), E27 _ (by omega), E25 _ (by omega), E23 _ (by omega), E21 _ (by omega), E9 _ (by omega)]
  rw [r7] at W36
  have r9 : A9 (N + 5) = A34 (N + 5) := by rw [E34 _ (by omega), E27 _ (by omega), E25 _ (by omega), E23 _ (by omega), E21 _ (by omega)]
  rw [r9] at W36
  have r21 : A21 (N + 6) = A34 (N + 6) := by rw [E34 _ (by omega), E27 _ (by omega), E25 _ (by omega), E23 _ (by omega)]
  rw [r21] at W36
  have r23 : A23 (N + 7) = A34 (N + 7) := by rw [E34 _ (by omega), E27 _ (by omega), E25 _ (by omega)]
  rw [r23] at W36
  have r25 : A25 (N + 8) = A34 (N + 8) := by rw [E34 _ (by omega), E27 _ (by omega)]
  rw [r25] at W36
  have r27 : A27 (N + 9) = A34 (N + 9) := by rw [E34 _ (by omega)]
  rw [r27] at W36
  refine go_adv hX c_123 2 (F2 := (167, [], [(1, .int (nI 0)), (0, .ref o)], g36)) rfl ?_
  refine k_M1 hX (r := 0) (p := N + 1) (f := fun _ => 0) (by decide) W36 (by omega) (by omega) (by omega) o34 rfl (by rw [va_up_ne _ _ (show N + 1 ≠ N + 10 by omega), va_up_ne _ _ (show N + 1 ≠ N + 9 by omega), va_up_ne _ _ (show N + 1 ≠ N + 8 by omega), va_up_ne _ _ (show N + 1 ≠ N + 7 by omega), va_up_ne _ _ (show N + 1 ≠ N + 6 by omega), va_up_ne _ _ (show N + 1 ≠ N + 5 by omega), va_up_ne _ _ (show N + 1 ≠ N + 4 by omega), va_up_ne _ _ (show N + 1 ≠ N + 3 by omega), va_up_ne _ _ (show N + 1 ≠ N + 2 by omega), va_up_self]) fun gA WA => ?_
  refine k_M1 hX (r := 1) (p := N + 1) (by decide) WA (by omega) (by omega) (by omega) o34 rfl (va_up_self _ _ _) fun gB WB => ?_
  refine go_adv hX c_123 2 (F2 := (169, [.int (ki 2), .int (nI 2)], [(1, .int (nI 2)), (0, .ref o)], gB)) rfl ?_
  refine go_ct hX 207 c_123 rfl rfl (show ki 2 ≤ nI 2 by decide) ?_
  refine go_adv hX c_123 2 (F2 := (209, [], [(1, .int (nI 0)), (0, .ref o)], gB)) rfl ?_
  refine k_M2 hX (p := N + 1) (by omega) (by omega) (by omega) o34 rfl 8 0 rfl _ gB _ WB (va_up_self _ _ _) fun gC f2 k1 k2 WC => ?_
  rw [bx_uu, bx_uu] at WC
  refine go_ret hX c_123 rfl rfl ?_
  have ef : f2 = kM_ 1 := by
    funext x
    show _ = if 24 ≤ x ∧ x < 32 then _ else _
    by_cases ex : 24 ≤ x ∧ x < 32
    · rw [if_pos ex]
      have := k1 (x - 24) (by omega) (by omega)
      rw [show 24 + (x - 24) = x by omega] at this
      exact this
    · rw [if_neg ex]
      exact k2 x (by omega)
  subst ef
  refine hg A34 _ gC (fun j hj => by rw [E34 j (by omega), E27 j (by omega), E25 j (by omega), E23 j (by omega), E21 j (by omega), E9 j (by omega), E7 j (by omega), E5 j (by omega), E3 j (by omega), E1 j (by omega)]) (fun j hj => ?_) (fun j hj => ?_) WC
  · rw [va_up_ne _ _ (show j ≠ N by omega), va_up_ne _ _ (show j ≠ N + 1 by omega), va_up_ne _ _ (show j ≠ N + 10 by omega), va_up_ne _ _ (show j ≠ N + 9 by omega), va_up_ne _ _ (show j ≠ N + 8 by omega), va_up_ne _ _ (show j ≠ N + 7 by omega), va_up_ne _ _ (show j ≠ N + 6 by omega), va_up_ne _ _ (show j ≠ N + 5 by omega), va_up_ne _ _ (show j ≠ N + 4 by omega), va_up_ne _ _ (show j ≠ N + 3 by omega), va_up_ne _ _ (show j ≠ N + 2 by omega), va_up_ne _ _ (show j ≠ N + 1 by omega)]
  · match j, hj with
    | 0, _ =>
      show va_up _ _ _ (N) = _
      rw [va_up_self]
      rfl
    | 1, _ =>
      show va_up _ _ _ (N + 1) = _
      rw [va_up_ne _ _ (show N + 1 ≠ N by omega), va_up_self]
      rfl
    | 2, _ =>
      show va_up _ _ _ (N + 2) = _
      rw [va_up_ne _ _ (show N + 2 ≠ N by omega), va_up_ne _ _ (show N + 2 ≠ N + 1 by omega), va_up_ne _ _ (show N + 2 ≠ N + 10 by omega), va_up_ne _ _ (show N + 2 ≠ N + 9 by omega), va_up_ne _ _ (show N + 2 ≠ N + 8 by omega), va_up_ne _ _ (show N + 2 ≠ N + 7 by omega), va_up_ne _ _ (show N + 2 ≠ N + 6 by omega), va_up_ne _ _ (show N + 2 ≠ N + 5 by omega), va_up_ne _ _ (show N + 2 ≠ N + 4 by omega), va_up_ne _ _ (show N + 2 ≠ N + 3 by omega), va_up_self]
      rfl
    | 3, _ =>
      show va_up _ _ _ (N + 3) = _
      rw [va_up_ne _ _ (show N + 3 ≠ N by omega), va_up_ne _ _ (show N + 3 ≠ N + 1 by omega), va_up_ne _ _ (show N + 3 ≠ N + 10 by omega), va_up_ne _ _ (show N + 3 ≠ N + 9 by omega), va_up_ne _ _ (show N + 3 ≠ N + 8 by omega), va_up_ne _ _ (show N + 3 ≠ N + 7 by omega), va_up_ne _ _ (show N + 3 ≠ N + 6 by omega), va_up_ne _ _ (show N + 3 ≠ N + 5 by omega), va_up_ne _ _ (show N + 3 ≠ N + 4 by omega), va_up_self]
      rfl
    | 4, _ =>
      show va_up _ _ _ (N + 4) = _
      rw [va_up_ne _ _ (show N + 4 ≠ N by omega), va_up_ne _ _ (show N + 4 ≠ N + 1 by omega), va_up_ne _ _ (show N + 4 ≠ N + 10 by omega), va_up_ne _ _ (show N + 4 ≠ N + 9 by omega), va_up_ne _ _ (show N + 4 ≠ N + 8 by omega), va_up_ne _ _ (show N + 4 ≠ N + 7 by omega), va_up_ne _ _ (show N + 4 ≠ N + 6 by omega), va_up_ne _ _ (show N + 4 ≠ N + 5 by omega), va_up_self]
      rfl
    | 5, _ =>
      show va_up _ _ _ (N + 5) = _
      rw [va_up_ne _ _ (show N + 5 ≠ N by omega), va_up_ne _ _ (show N + 5 ≠ N + 1 by omega), va_up_ne _ _ (show N + 5 ≠ N + 10 by omega), va_up_ne _ _ (show N + 5 ≠ N + 9 by omega), va_up_ne _ _ (show N + 5 ≠ N + 8 by omega), va_up_ne _ _ (show N + 5 ≠ N + 7 by omega), va_up_ne _ _ (show N + 5 ≠ N + 6 by omega), va_up_self]
      rfl
    | 6, _ =>
      show va_up _ _ _ (N + 6) = _
      rw [va_up_ne _ _ (show N + 6 ≠ N by omega), va_up_ne _ _ (show N + 6 ≠ N + 1 by omega), va_up_ne _ _ (show N + 6 ≠ N + 10 by omega), va_up_ne _ _ (show N + 6 ≠ N + 9 by omega), va_up_ne _ _ (show N + 6 ≠ N + 8 by omega), va_up_ne _ _ (show N + 6 ≠ N + 7 by omega), va_up_self]
      rfl
    | 7, _ =>
      show va_up _ _ _ (N + 7) = _
      rw [va_up_ne _ _ (show N + 7 ≠ N by omega), va_up_ne _ _ (show N + 7 ≠ N + 1 by omega), va_up_ne _ _ (show N + 7 ≠ N + 10 by omega), va_up_ne _ _ (show N + 7 ≠ N + 9 by omega), va_up_ne _ _ (show N + 7 ≠ N + 8 by omega), va_up_self]
      rfl
    | 8, _ =>
      show va_up _ _ _ (N + 8) = _
      rw [va_up_ne _ _ (show N + 8 ≠ N by omega), va_up_ne _ _ (show N + 8 ≠ N + 1 by omega), va_up_ne _ _ (show N + 8 ≠ N + 10 by omega), va_up_ne _ _ (show N + 8 ≠ N + 9 by omega), va_up_self]
      rfl
    | 9, _ =>
      show va_up _ _ _ (N + 9) = _
      rw [va_up_ne _ _ (show N + 9 ≠ N by omega), va_up_ne _ _ (show N + 9 ≠ N + 1 by omega), va_up_ne _ _ (show N + 9 ≠ N + 10 by omega), va_up_self]
      rfl
    | 10, _ =>
      show va_up _ _ _ (N + 10) = _
      rw [va_up_ne _ _ (show N + 10 ≠ N by omega), va_up_ne _ _ (show N + 10 ≠ N + 1 by omega), va_up_self]
      rfl
end KN

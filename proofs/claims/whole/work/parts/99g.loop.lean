/-! the law's loop -/
def lc_off : Array Int := #[192, 272, 328, 384, 464, 532, 600, 656, 724, 737, 805, 873, 941, 1009, 1077, 1145, 1213, 1281, 1349, 1417, 1473, 1541, 1609, 1665, 1733, 1789, 1852, 1865, 1878, 1946, 1959, 2017, 2061, 2074, 2158, 2214, 2270, 2283, 2339, 2395, 2460, 2526, 2570, 2583]
def lc_t (j : Nat) : Nat := ([236, 316, 372, 428, 508, 576, 644, 700, 768, 781, 849, 917, 985, 1053, 1121, 1189, 1257, 1325, 1393, 1461, 1517, 1585, 1653, 1709, 1777, 1833, 1896, 1909, 1922, 1990, 2003, 2061, 2105, 2118, 2202, 2258, 2314, 2327, 2383, 2439, 2504, 2570, 2614, 2627] : List Nat).getD j 2671
def k_lp : List mm_E := [(28, .iload 5, 0, 0), (30, .aload_n 0, 0, 0), (32, .iconst 4, 0, 0), (33, .isub, 0, 0), (34, .if_icmp .gt 2643, 0, 0), (37, .aload_n 0, 0, 0), (38, .iload 5, 0, 0), (41, .bipush 63, 0, 0), (43, .iand, 0, 0), (44, .tableswitch 2627 0 43 lc_off, 0, 192), (2671, .iinc 5 4, 0, 0), (2674, .goto (-2646), 0, 0), (2677, .iconst 1, 0, 0)]
theorem kk_lp : k_lp.all (lx_eok code 9) = true := by decide +kernel
theorem lc_tj : ∀ j, j < 64 → mm_to 44 (if (nI j).toInt < 0 ∨ 43 < (nI j).toInt then 2627 else (lc_off[((nI j).toInt - 0).toNat]?).getD 2627) = lc_t j := by decide +kernel
theorem lc_tP : 0 ≤ ((44 : Nat) : Int) + 2627 ∧ (∀ o ∈ lc_off.toList, 0 ≤ ((44 : Nat) : Int) + o) ∧ (lc_off.size : Int) = 43 - 0 + 1 := by decide +kernel
section LP
variable {C : LC_} {b L : Nat} {xs : Nat → Int32} {cells slots : Nat} {h : mm_S} {A : Nat → Nat} {K : Nat → mm_Ce} {x m o o2 n : Nat}
theorem lc_next (X : LX_ C b L xs) (g : LK_ C b cells slots (28, [], ls_ b x m o o2 (n + 4), h)) : LK_ C b cells slots (2671, [], ls_ b x m o o2 n, h) := by
  refine ll_R X (lr_n kk_lp (pc := 2671) rfl (F2 := (2674, [], ls_ b x m o o2 (n + 4), h)) ?_ (lr_to kk_lp (pc := 2674) 28 rfl rfl lr_rf)) g
  show some (none, 2674, [], [(5, Value.int (nI n + Int32.ofInt 4)), (0, .ref b), (1, .ref x), (2, .ref m), (3, .ref o), (4, .ref o2)], h) = _
  rw [show nI n + Int32.ofInt 4 = nI (n + 4) from nI_add n 4]
theorem lc_head (X : LX_ C b L xs) (hL : L ≤ 2048) (hn : n ≤ L + 4) (g1 : ¬ n + 4 ≤ L → LK_ C b cells slots (2677, [], ls_ b x m o o2 n, h)) (g2 : n + 4 ≤ L → LK_ C b cells slots (37, [], ls_ b x m o o2 n, h)) : LK_ C b cells slots (28, [], ls_ b x m o o2 n, h) := by
  refine ll_R X (lr_n kk_lp (pc := 28) rfl (F2 := (30, [.int (nI n)], ls_ b x m o o2 n, h)) rfl (lr_n kk_lp (pc := 30) rfl (F2 := (31, [.ref b, .int (nI n)], ls_ b x m o o2 n, h)) rfl lr_rf)) ?_
  refine ll_len X (by decide +kernel) ?_
  refine ll_R X (lr_n kk_lp (pc := 32) rfl (F2 := (33, [.int (ki 4), .int (nI L), .int (nI n)], ls_ b x m o o2 n, h)) rfl (lr_n kk_lp (pc := 33) rfl (F2 := (34, [.int (nI L - ki 4), .int (nI n)], ls_ b x m o o2 n, h)) rfl lr_rf)) ?_
  have e : (nI L - ki 4).toInt = (L : Int) - 4 := pk_sub_toInt (a := L) (b := 4) (by omega) (by decide)
  have e2 : (nI n).toInt = (n : Int) := nI_toInt (by omega)
  have hlt : (nI L - ki 4 < nI n) ↔ ¬ n + 4 ≤ L := by
    rw [Int32.lt_iff_toInt_lt, e, e2]
    omega
  by_cases hc : n + 4 ≤ L
  · exact ll_R X (lr_cf kk_lp (pc := 34) rfl (by decide) (show ¬ (nI L - ki 4 < nI n) from fun z => hlt.mp z hc) lr_rf) (g2 hc)
  · exact ll_R X (lr_ct kk_lp (pc := 34) 2677 rfl rfl (show nI L - ki 4 < nI n from hlt.mpr hc) lr_rf) (g1 hc)
theorem lc_sw (X : LX_ C b L xs) (hL : L ≤ 2048) (hn4 : n + 4 ≤ L) (I : LI_ x m o o2 A K h) (hc : cells + 2 ≤ 603072 ∧ slots + 80 ≤ 7215210) (hn : ∀ A' K' h', LI_ x m o o2 A' K' h' → LK_ C b (cells + 2) (slots + 80) (2671, [], ls_ b x m o o2 n, h')) : LK_ C b cells slots (37, [], ls_ b x m o o2 n, h) := by
  have hL2 : n + 3 < L ∧ L < 2 ^ 31 := ⟨by omega, by omega⟩
  refine ll_R X (lr_n kk_lp (pc := 37) rfl (F2 := (38, [.ref b], ls_ b x m o o2 n, h)) rfl (lr_n kk_lp (pc := 38) rfl (F2 := (40, [.int (nI n), .ref b], ls_ b x m o o2 n, h)) rfl lr_rf)) ?_
  refine ll_ld X (by decide +kernel) (vp_in_nI (by omega) hL2.2) rfl ?_
  generalize xs (nI n).toNatClampNeg = w
  obtain ⟨j, hj, ej⟩ := pk_andE w 6 (m := kb 63) (by decide)
  refine ll_R X (lr_n kk_lp (pc := 41) rfl (F2 := (43, [.int (kb 63), .int w], ls_ b x m o o2 n, h)) rfl (lr_n kk_lp (pc := 43) rfl (F2 := (44, [.int (w &&& kb 63)], ls_ b x m o o2 n, h)) rfl lr_rf)) ?_
  rw [ej]
  have hj2 : j < 64 := hj
  refine ll_R X (lr_p kk_lp (pc := 44) rfl (F2 := (mm_to 44 (if (nI j).toInt < 0 ∨ 43 < (nI j).toInt then 2627 else (lc_off[((nI j).toInt - 0).toNat]?).getD 2627), [], ls_ b x m o o2 n, h)) rfl lc_tP lr_rf) ?_
  rw [lc_tj j hj2]
  match j, hj2 with
  | 0, _ => exact lc_c0 X hL2 I hc hn
  | 1, _ => exact lc_c1 X hL2 I hc hn
  | 2, _ => exact lc_c2 X hL2 I hc hn
  | 3, _ => exact lc_c3 X hL2 I hc hn
  | 4, _ => exact lc_c4 X hL2 I hc hn
  | 5, _ => exact lc_c5 X hL2 I hc hn
  | 6, _ => exact lc_c6 X hL2 I hc hn
  | 7, _ => exact lc_c7 X hL2 I hc hn
  | 8, _ => exact lc_c8 X hL2 I hc hn
  | 9, _ => exact lc_c9 X hL2 I hc hn
  | 10, _ => exact lc_c10 X hL2 I hc hn
  | 11, _ => exact lc_c11 X hL2 I hc hn
  | 12, _ => exact lc_c12 X hL2 I hc hn
  | 13, _ => exact lc_c13 X hL2 I hc hn
  | 14, _ => exact lc_c14 X hL2 I hc hn
  | 15, _ => exact lc_c15 X hL2 I hc hn
  | 16, _ => exact lc_c16 X hL2 I hc hn
  | 17, _ => exact lc_c17 X hL2 I hc hn
  | 18, _ => exact lc_c18 X hL2 I hc hn
  | 19, _ => exact lc_c19 X hL2 I hc hn
  | 20, _ => exact lc_c20 X hL2 I hc hn
  | 21, _ => exact lc_c21 X hL2 I hc hn
  | 22, _ => exact lc_c22 X hL2 I hc hn
  | 23, _ => exact lc_c23 X hL2 I hc hn
  | 24, _ => exact lc_c24 X hL2 I hc hn
  | 25, _ => exact lc_c25 X hL2 I hc hn
  | 26, _ => exact lc_c26 X hL2 I hc hn
  | 27, _ => exact lc_c27 X hL2 I hc hn
  | 28, _ => exact lc_c28 X hL2 I hc hn
  | 29, _ => exact lc_c29 X hL2 I hc hn
  | 30, _ => exact lc_c30 X hL2 I hc hn
  | 31, _ => exact lc_c31 X hL2 I hc hn
  | 32, _ => exact lc_c32 X hL2 I hc hn
  | 33, _ => exact lc_c33 X hL2 I hc hn
  | 34, _ => exact lc_c34 X hL2 I hc hn
  | 35, _ => exact lc_c35 X hL2 I hc hn
  | 36, _ => exact lc_c36 X hL2 I hc hn
  | 37, _ => exact lc_c37 X hL2 I hc hn
  | 38, _ => exact lc_c38 X hL2 I hc hn
  | 39, _ => exact lc_c39 X hL2 I hc hn
  | 40, _ => exact lc_c40 X hL2 I hc hn
  | 41, _ => exact lc_c41 X hL2 I hc hn
  | 42, _ => exact lc_c42 X hL2 I hc hn
  | 43, _ => exact lc_c43 X hL2 I hc hn
  | j + 44, _ =>
    have e : lc_t (j + 44) = 2671 := by
      unfold lc_t
      rw [List.getD_eq_getElem?_getD, List.getElem?_eq_none (by show 44 ≤ j + 44; omega)]
      rfl
    rw [e]
    exact ll_w (Nat.le_add_right _ _) (Nat.le_add_right _ _) (hn A K h I)
theorem lc_loop (X : LX_ C b L xs) (hL : L ≤ 2048) (hx : ∀ (cells slots n : Nat) (h : mm_S), cells ≤ 603072 → slots ≤ 7215210 → LK_ C b cells slots (2677, [], ls_ b x m o o2 n, h)) : ∀ (r n cells slots : Nat) (A : Nat → Nat) (K : Nat → mm_Ce) (h : mm_S), LI_ x m o o2 A K h → L ≤ n + 4 * r → n ≤ L + 4 → cells + 2 * r ≤ 603072 → slots + 80 * r ≤ 7215210 → LK_ C b cells slots (28, [], ls_ b x m o o2 n, h)
  | 0, n, cells, slots, A, K, h, I, h1, h2, h3, h4 => lc_head X hL h2 (fun _ => hx cells slots n h (by omega) (by omega)) (fun z => absurd z (by omega))
  | r + 1, n, cells, slots, A, K, h, I, h1, h2, h3, h4 => lc_head X hL h2 (fun _ => hx cells slots n h (by omega) (by omega)) (fun z => lc_sw X hL z I (by omega) (fun A' K' h' I' => lc_next X (lc_loop X hL hx r (n + 4) (cells + 2) (slots + 80) A' K' h' I' (by omega) (by omega) (by omega) (by omega))))
end LP
